import java.lang.reflect.Constructor;
import java.lang.reflect.Field;
import java.lang.reflect.Method;
import java.lang.reflect.Modifier;
import java.util.ArrayList;
import java.util.List;
import java.util.Set;
import java.util.TreeSet;

/** The document's face is all that can be seen of the class, as LANGUAGE.md's rule 1 asks. */
public final class FaceTest {
  private static final String OUT = " throws java.lang.ArrayIndexOutOfBoundsException";
  private static final String ILLEGAL = "java.lang.IllegalArgumentException";
  private static final Set<String> FACE = new TreeSet<>(List.of(
      "int move()", "boolean exchange(int,int,int)" + OUT,
      "boolean adds(int,int,int)" + OUT + "," + ILLEGAL, "int order(int)" + OUT,
      "boolean choose(int,boolean)" + OUT, "int size()", "void set(int)" + OUT, "int number()",
      "int place(int)" + OUT, "int twist(int)" + OUT, "void apply(int)" + OUT, "int build(int)",
      "int value(int)" + OUT, "int count(int)", "long packed(int,int) throws " + ILLEGAL,
      "int down()", "int symmetry()", "boolean turn(int,int,int)" + OUT,
      "boolean good(int)" + OUT, "int least(int)" + OUT, "int classes()", "int file(int)"));

  private static String told(Method method) {
    return method.toGenericString().replace("public ", "").replace("CosetTables.", "");
  }

  public static void main(String[] args) {
    List<String> wrong = new ArrayList<>();
    Set<String> seen = new TreeSet<>();
    Set<String> names = new TreeSet<>();
    for (Method method : CosetTables.class.getDeclaredMethods()) {
      if (!Modifier.isPrivate(method.getModifiers())) {
        seen.add(told(method));
        names.add(method.getName());
      }
    }
    if (!seen.equals(FACE)) {
      wrong.add("the methods are " + seen + ", due are " + FACE);
    }
    for (Class<?> inside : CosetTables.class.getDeclaredClasses()) {
      if (!Modifier.isStatic(inside.getModifiers()) || Modifier.isPublic(inside.getModifiers())) {
        wrong.add("not private or package-visible and static: " + inside);
      }
    }
    for (Method method : CosetTables.class.getDeclaredMethods()) {
      if (Modifier.isPrivate(method.getModifiers()) && names.contains(method.getName())) {
        wrong.add("private, with the name of a public one: " + method);
      }
    }
    for (Field field : CosetTables.class.getDeclaredFields()) {
      if (!Modifier.isPrivate(field.getModifiers())) {
        wrong.add("to be seen from outside: " + field);
      }
    }
    Constructor<?>[] constructors = CosetTables.class.getDeclaredConstructors();
    if (constructors.length != 1
        || !constructors[0].toString().equals("public CosetTables(int,int)")) {
      wrong.add("the constructors are " + List.of(constructors));
    }
    if (CosetTables.class.getModifiers() != (Modifier.PUBLIC | Modifier.FINAL)) {
      wrong.add("the class is not just public and final");
    }
    wrong.forEach(System.out::println);
    System.out.println(wrong.isEmpty() ? "the face is as due" : "the face is not as due");
    System.exit(wrong.isEmpty() ? 0 : 1);
  }
}
