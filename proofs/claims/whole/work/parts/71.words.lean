/-! the law's words lie in the tables -/
theorem wl_1 : ∀ w ∈ wsL_law0_r1, w ∈ lw_tbl := by decide +kernel
theorem wl_2 : ∀ w ∈ wsL_law0_r2, w ∈ lw_tbl := by decide +kernel
theorem wl_3 : ∀ w ∈ wsL_law0_r3, w ∈ lw_tbl := by decide +kernel
theorem wl_4 : ∀ w ∈ wsL_law0_r4, w ∈ lw_tbl := by decide +kernel
theorem wl_5 : ∀ w ∈ wsL_law0_r5, w ∈ lw_tbl := by decide +kernel
theorem wl_6 : ∀ w ∈ wsL_law0_r6, w ∈ lw_tbl := by decide +kernel
theorem wl_7 : ∀ w ∈ wsL_law0_r7, w ∈ lw_tbl := by decide +kernel
theorem wl_8 : ∀ w ∈ wsL_law0_r8, w ∈ lw_tbl := by decide +kernel
theorem wl_9 : ∀ w ∈ wsL_law0_r9, w ∈ lw_tbl := by decide +kernel
theorem wl_10 : ∀ w ∈ wsL_law0_r10, w ∈ lw_tbl := by decide +kernel
theorem wl_11 : ∀ w ∈ wsL_law0_r11, w ∈ lw_tbl := by decide +kernel
theorem wl_12 : ∀ w ∈ wsL_law0_r12, w ∈ lw_tbl := by decide +kernel
theorem wl_13 : ∀ w ∈ wsL_law0_r13, w ∈ lw_tbl := by decide +kernel
theorem wl_14 : ∀ w ∈ wsL_law0_r14, w ∈ lw_tbl := by decide +kernel
theorem wl_15 : ∀ w ∈ wsL_law0_r15, w ∈ lw_tbl := by decide +kernel
theorem wl_16 : ∀ w ∈ wsL_law0_r16, w ∈ lw_tbl := by decide +kernel
theorem wl_17 : ∀ w ∈ wsL_law0_r17, w ∈ lw_tbl := by decide +kernel
theorem wl_18 : ∀ w ∈ wsL_law0_r18, w ∈ lw_tbl := by decide +kernel
theorem wl_19 : ∀ w ∈ wsL_law0_r19, w ∈ lw_tbl := by decide +kernel
theorem wl_20 : ∀ w ∈ wsL_law0_r20, w ∈ lw_tbl := by decide +kernel
theorem wl_21 : ∀ w ∈ wsL_law0_r21, w ∈ lw_tbl := by decide +kernel
theorem wl_22 : ∀ w ∈ wsL_law0_r22, w ∈ lw_tbl := by decide +kernel
theorem wl_23 : ∀ w ∈ wsL_law0_r23, w ∈ lw_tbl := by decide +kernel
theorem wl_24 : ∀ w ∈ wsL_law0_r24, w ∈ lw_tbl := by decide +kernel
theorem wl_25 : ∀ w ∈ wsL_law0_r25, w ∈ lw_tbl := by decide +kernel
theorem wl_26 : ∀ w ∈ wsL_law0_r26, w ∈ lw_tbl := by decide +kernel
theorem wl_27 : ∀ w ∈ wsL_law0_r27, w ∈ lw_tbl := by decide +kernel
theorem wl_28 : ∀ w ∈ wsL_law0_r28, w ∈ lw_tbl := by decide +kernel
theorem wl_29 : ∀ w ∈ wsL_law0_r29, w ∈ lw_tbl := by decide +kernel
theorem wl_wsX60 : ∀ w ∈ wsX60, w ∈ lw_tbl := by decide +kernel
theorem wl_wsX70 : ∀ w ∈ wsX70, w ∈ lw_tbl := by decide +kernel
theorem wl_wsX00 : ∀ w ∈ wsX00, w ∈ lw_tbl := by decide +kernel
theorem wl_wsX10 : ∀ w ∈ wsX10, w ∈ lw_tbl := by decide +kernel
theorem wl_wsX30 : ∀ w ∈ wsX30, w ∈ lw_tbl := by decide +kernel
theorem wl_wsX40 : ∀ w ∈ wsX40, w ∈ lw_tbl := by decide +kernel
theorem wl_wsX50 : ∀ w ∈ wsX50, w ∈ lw_tbl := by decide +kernel
theorem wl_wsX20 : ∀ w ∈ wsX20, w ∈ lw_tbl := by decide +kernel
theorem wl_wsJx000600 : ∀ w ∈ wsJx000600, w ∈ lw_tbl := by decide +kernel
theorem wl_wsJ40 : ∀ w ∈ wsJ40, w ∈ lw_tbl := by decide +kernel
theorem wl_wsJ00 : ∀ w ∈ wsJ00, w ∈ lw_tbl := by decide +kernel
theorem wl_x0 : ∀ w ∈ (vx_atM "java/lang/ArrayIndexOutOfBoundsException" ["java/lang/IndexOutOfBoundsException", "java/lang/RuntimeException", "java/lang/Exception"]).filter goodWord, w ∈ lw_tbl := by decide +kernel
theorem wl_x1 : ∀ w ∈ (vx_atS RX6 113 "java/lang/IllegalArgumentException" ["java/lang/RuntimeException", "java/lang/Exception"]).filter goodWord, w ∈ lw_tbl := by decide +kernel
theorem wl_ap {A B : List Cond} (h1 : ∀ w ∈ A, w ∈ lw_tbl) (h2 : ∀ w ∈ B, w ∈ lw_tbl) : ∀ w ∈ A ++ B, w ∈ lw_tbl := fun w h => (List.mem_append.mp h).elim (h1 w) (h2 w)
theorem wl_law0 : ∀ w ∈ wsL_law0, w ∈ lw_tbl := (wl_ap (wl_ap (wl_ap (wl_ap (wl_ap (wl_ap (wl_ap (wl_ap (wl_ap (wl_ap (wl_ap (wl_ap wl_1 (wl_ap wl_2 (wl_ap wl_3 (wl_ap wl_4 (wl_ap wl_5 (wl_ap wl_6 (wl_ap wl_7 (wl_ap wl_8 (wl_ap wl_9 (wl_ap wl_10 (wl_ap wl_11 (wl_ap wl_12 (wl_ap wl_13 (wl_ap wl_14 (wl_ap wl_15 (wl_ap wl_16 (wl_ap wl_17 (wl_ap wl_18 (wl_ap wl_19 (wl_ap wl_20 (wl_ap wl_21 (wl_ap wl_22 (wl_ap wl_23 (wl_ap wl_24 (wl_ap wl_25 (wl_ap wl_26 (wl_ap wl_27 (wl_ap wl_28 wl_29)))))))))))))))))))))))))))) wl_wsX60) wl_wsX70) wl_wsX00) wl_wsX10) wl_wsX30) wl_wsX40) wl_wsX50) wl_wsX20) wl_wsJx000600) wl_wsJ40) (fun _ h => absurd h List.not_mem_nil))
theorem wl_law : ∀ w ∈ wsL_law, w ∈ lw_tbl := wl_ap (wl_ap wl_law0 wl_x0) wl_x1
theorem wl_at : ∀ w ∈ atA, w ∈ lw_tbl := fun w h => List.mem_append_right _ (atA_tbl w h)
theorem wl_nw : ∀ w ∈ nwL, w ∈ tables_1 := by decide +kernel
theorem wl_nwT : ∀ w ∈ nwL, w.onTables = true := by decide +kernel
theorem wl_ng : ∀ w ∈ ngA ++ ngI, w ∈ tables_1 := by decide +kernel
theorem wl_ngT : ∀ w ∈ ngA ++ ngI, w.onTables = true := by decide +kernel
