import java.lang.reflect.Constructor;
import java.lang.reflect.Field;
import java.lang.reflect.Method;
import java.lang.reflect.Modifier;
import java.util.Set;
import java.util.TreeSet;

/** The class shows just the face of the document, and keeps to the rules that reflection can see. */
public final class FaceTests {
  private static final String[] METHODS = {
    "boolean limit(int,int)", "boolean leg(int,int)", "void drop()", "int commit(int)", "int sync()",
    "boolean fail(int)", "int recover()", "boolean on()", "int entries()", "int synced()",
    "int balance(int,int)", "int statement(int,int,int,boolean)", "int find(int)", "int leaf(int)",
    "int head(int)", "int prove(int,int)", "int extend(int,int)", "boolean put(int)",
    "boolean take()", "int pad(int)", "boolean included(int,int,int,int)",
    "boolean consistent(int,int,int,int)", "int cell(int)", "int writes()"
  };
  private static final String[] CONSTANTS = {
    "NONE = -1", "OFF = -2", "UNEVEN = -3", "KEY = -4", "POOR = -5", "FULL = -6"
  };
  private static int wrong = 0;

  private static void due(String what, Object got, Object want) {
    if (!got.equals(want)) {
      wrong++;
      System.out.println(what + ": got " + got + ", due is " + want);
    }
  }

  private static String signature(Method method) {
    StringBuilder text = new StringBuilder();
    text.append(method.getReturnType().getName()).append(' ').append(method.getName()).append('(');
    String comma = "";
    for (Class<?> type : method.getParameterTypes()) {
      text.append(comma).append(type.getName());
      comma = ",";
    }
    return text.append(')').toString();
  }

  private static void checkMethods() {
    Set<String> names = new TreeSet<>();
    Set<String> shown = new TreeSet<>();
    for (Method method : SealedLedger.class.getDeclaredMethods()) {
      if (!Modifier.isPrivate(method.getModifiers())) {
        due(signature(method) + " has the modifiers", Modifier.toString(method.getModifiers()), "public");
        shown.add(signature(method));
        names.add(method.getName());
      }
    }
    due("the methods", shown, new TreeSet<>(Set.of(METHODS)));
    checkNoOtherBears(names, SealedLedger.class);
    for (Class<?> inside : SealedLedger.class.getDeclaredClasses()) {
      checkNoOtherBears(names, inside);
    }
  }

  private static void checkNoOtherBears(Set<String> names, Class<?> where) {
    for (Method method : where.getDeclaredMethods()) {
      boolean ofFace = where == SealedLedger.class && Modifier.isPublic(method.getModifiers());
      due(where.getName() + "." + method.getName() + " bears a name of the face",
          !ofFace && names.contains(method.getName()), false);
      due(where.getName() + "." + method.getName() + " has over seven parameters",
          method.getParameterCount() > 7, false);
    }
  }

  private static void checkFields() throws IllegalAccessException {
    Set<String> shown = new TreeSet<>();
    for (Field field : SealedLedger.class.getDeclaredFields()) {
      int modifiers = field.getModifiers();
      if (!Modifier.isPrivate(modifiers)) {
        due(field.getName() + " has the modifiers", Modifier.toString(modifiers), "public static final");
        shown.add(field.getName() + " = " + field.getInt(null));
      }
      due(field.getName() + " is static and not final",
          Modifier.isStatic(modifiers) && !Modifier.isFinal(modifiers), false);
    }
    due("the constants", shown, new TreeSet<>(Set.of(CONSTANTS)));
  }

  private static void checkClass() {
    due("the class's modifiers", Modifier.toString(SealedLedger.class.getModifiers()), "public final");
    Constructor<?>[] constructors = SealedLedger.class.getDeclaredConstructors();
    due("constructors", constructors.length, 1);
    due("the constructor's parameters", constructors[0].getParameterCount(), 0);
    due("the constructor's modifiers", Modifier.toString(constructors[0].getModifiers()), "public");
    for (Class<?> inside : SealedLedger.class.getDeclaredClasses()) {
      int modifiers = inside.getModifiers();
      due(inside.getName() + " is static", Modifier.isStatic(modifiers), true);
      due(inside.getName() + " is public or protected",
          Modifier.isPublic(modifiers) || Modifier.isProtected(modifiers), false);
    }
  }

  public static void main(String[] args) throws IllegalAccessException {
    checkClass();
    checkMethods();
    checkFields();
    System.out.println(wrong == 0 ? "the face is as due" : wrong + " things of the face are not as due");
    if (wrong != 0) System.exit(1);
  }
}
