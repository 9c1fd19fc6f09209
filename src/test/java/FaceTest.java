import java.lang.reflect.Constructor;
import java.lang.reflect.Field;
import java.lang.reflect.Method;
import java.lang.reflect.Modifier;
import java.util.TreeSet;

/** The class shows the document's face, and nothing else; its members keep to LANGUAGE.md. */
public final class FaceTest {
  private static final String INDEX = " IndexOutOfBoundsException";
  private static final String ARGUMENT = " IllegalArgumentException";
  private static final String STATE = " IllegalStateException";

  private static final String[] FACE = {
    "void item(int int int int int)" + INDEX + ARGUMENT,
    "void costs(int int int int)" + INDEX + ARGUMENT,
    "void made(int int int)" + INDEX + ARGUMENT,
    "void line(int int int int int)" + INDEX + ARGUMENT + STATE,
    "int stock(int int)" + INDEX + ARGUMENT,
    "int demand(int int int)" + INDEX + ARGUMENT + STATE,
    "int change(int int int)" + ARGUMENT + INDEX,
    "int order(int int int)" + INDEX + ARGUMENT + STATE,
    "int replan()",
    "int level(int)" + INDEX,
    "long gross(int int)" + INDEX + STATE,
    "long planned(int int)" + INDEX + STATE,
    "long balance(int int)" + INDEX + STATE,
    "long peg(int int int)" + INDEX + ARGUMENT + STATE,
    "int promise(int int int)" + INDEX + ARGUMENT + STATE,
    "int reserve(int int int)" + INDEX + ARGUMENT + STATE,
    "int giveBack(int)" + INDEX,
    "long load(int int)" + INDEX + STATE,
    "int count(int)" + STATE,
  };

  public static void main(String[] args) {
    Check check = new Check();
    Class<?> face = NettedPlans.class;
    check.is("modifiers", Modifier.PUBLIC | Modifier.FINAL, face::getModifiers);
    check.is("NONE", -1, () -> NettedPlans.NONE);

    TreeSet<String> due = new TreeSet<>();
    for (String method : FACE) {
      due.add("public " + method);
    }
    TreeSet<String> got = new TreeSet<>();
    for (Method method : face.getDeclaredMethods()) {
      if (!Modifier.isPrivate(method.getModifiers())) {
        got.add(told(method));
      }
    }
    check.same("methods", due.toString(), got.toString());

    for (Field field : face.getDeclaredFields()) {
      if (!Modifier.isPrivate(field.getModifiers())) {
        check.same("field", "public static final int NONE",
            Modifier.toString(field.getModifiers()) + " " + field.getType() + " " + field.getName());
      }
    }
    Constructor<?>[] made = face.getDeclaredConstructors();
    check.is("constructors", 1, () -> made.length);
    check.same("constructor", "public NettedPlans()", made[0].toString());
    namesOfPrivateMethods(check, face);
    classesInside(check, face);
    check.end();
  }

  /** Rule 1: no private method bears the name of a public one. */
  private static void namesOfPrivateMethods(Check check, Class<?> face) {
    TreeSet<String> open = new TreeSet<>();
    for (Method method : face.getMethods()) {
      open.add(method.getName());
    }
    for (Method method : face.getDeclaredMethods()) {
      if (Modifier.isPrivate(method.getModifiers())) {
        check.is("taken name " + method.getName(), 0, () -> open.contains(method.getName()) ? 1 : 0);
      }
    }
  }

  /** Rules 1 and 11: classes inside are static and hidden, some twelve of some twenty fields. */
  private static void classesInside(Check check, Class<?> face) {
    Class<?>[] inside = face.getDeclaredClasses();
    check.is("at most twelve classes", 1, () -> inside.length < 12 ? 1 : 0);
    for (Class<?> one : inside) {
      int hidden = one.getModifiers() & (Modifier.PUBLIC | Modifier.PROTECTED | Modifier.STATIC);
      check.is("static and hidden: " + one.getName(), Modifier.STATIC, () -> hidden);
      check.is("twenty fields: " + one.getName(), 1,
          () -> one.getDeclaredFields().length <= 20 ? 1 : 0);
    }
  }

  private static String told(Method method) {
    StringBuilder text = new StringBuilder(Modifier.toString(method.getModifiers()));
    text.append(' ').append(method.getReturnType()).append(' ').append(method.getName()).append('(');
    String gap = "";
    for (Class<?> type : method.getParameterTypes()) {
      text.append(gap).append(type);
      gap = " ";
    }
    text.append(')');
    for (Class<?> type : method.getExceptionTypes()) {
      text.append(' ').append(type.getSimpleName());
    }
    return text.toString();
  }
}
