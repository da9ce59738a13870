import java.lang.reflect.Constructor;
import java.lang.reflect.Field;
import java.lang.reflect.Method;
import java.lang.reflect.Modifier;
import java.util.Set;
import java.util.TreeSet;

/** The public face and rule 1 of LANGUAGE.md: just the document's members can be seen from outside. */
public final class FaceTest {
  public static void main(String[] args) {
    Check check = new Check("FaceTest");
    check.due("class is public final", SlotBoard.class.getModifiers() & (Modifier.PUBLIC | Modifier.FINAL),
        Modifier.PUBLIC | Modifier.FINAL);

    Set<String> due = new TreeSet<>(Set.of("boolean access(int,int,int)", "boolean set(int,int)",
        "int run(int)", "int word(int)", "int point(int,int)", "int place()", "int frames()",
        "int slots(int)", "int look(int)", "int register(int)"));
    Set<String> seen = new TreeSet<>();
    Set<String> publicNames = new TreeSet<>();
    for (Method method : SlotBoard.class.getDeclaredMethods()) {
      if (Modifier.isPrivate(method.getModifiers())) continue;
      seen.add(signature(method));
      publicNames.add(method.getName());
      check.due(method.getName() + " is public", Modifier.isPublic(method.getModifiers()), true);
      check.due(method.getName() + " is static", Modifier.isStatic(method.getModifiers()), false);
    }
    check.due("methods are the document's: " + seen, seen.equals(due), true);

    for (Method method : SlotBoard.class.getDeclaredMethods()) {
      if (!Modifier.isPrivate(method.getModifiers())) continue;
      check.due("private " + method.getName() + " bears a public name",
          publicNames.contains(method.getName()), false);
    }
    for (Field field : SlotBoard.class.getDeclaredFields()) {
      check.due("field " + field.getName() + " is private", Modifier.isPrivate(field.getModifiers()), true);
    }
    Constructor<?>[] constructors = SlotBoard.class.getDeclaredConstructors();
    check.due("constructors", constructors.length, 1);
    check.due("constructor is public", Modifier.isPublic(constructors[0].getModifiers()), true);
    check.due("constructor's parameters", constructors[0].getParameterCount(), 0);
    check.end();
  }

  private static String signature(Method method) {
    StringBuilder text = new StringBuilder();
    text.append(method.getReturnType()).append(' ').append(method.getName()).append('(');
    for (Class<?> type : method.getParameterTypes()) {
      if (text.charAt(text.length() - 1) != '(') text.append(',');
      text.append(type);
    }
    return text.append(')').toString();
  }
}
