import java.lang.reflect.Constructor;
import java.lang.reflect.Field;
import java.lang.reflect.Method;
import java.lang.reflect.Modifier;
import java.util.Set;
import java.util.TreeSet;

// That the class has the document's face and no other member that is not private (LANGUAGE.md, rules 1, 5 and 11).
public final class FaceTest {
  private static int wrong = 0;

  public static void main(String[] args) {
    Set<String> face = new TreeSet<>();
    for (String member : new String[] {
        "public final class JudgedBits", "public JudgedBits()",
        "INVALID_ARGUMENT = -1000001", "NOT_POSSIBLE = -1000002", "LIMIT_REACHED = -1000003", "NOT_FOUND = -1000004",
        "ring 3", "noise 1", "sample 1", "draw 1", "restart 0", "set 2", "ringOf 2", "source 1", "raw 1", "stored 1",
        "would 2", "takes 1", "bestPeriod 1", "share 0", "count 1", "undo 0", "type 1", "clearText 0", "fault 1", "play 0"}) {
      face.add(member);
    }
    Set<String> found = new TreeSet<>();
    if (Modifier.toString(JudgedBits.class.getModifiers()).equals("public final")) found.add("public final class JudgedBits");
    for (Constructor<?> c : JudgedBits.class.getDeclaredConstructors()) {
      found.add(Modifier.toString(c.getModifiers()) + " JudgedBits(" + (c.getParameterCount() == 0 ? ")" : "..."));
    }
    for (Field f : JudgedBits.class.getDeclaredFields()) addField(f, found);
    for (Method m : JudgedBits.class.getDeclaredMethods()) addMethod(m, found);
    for (Class<?> inside : JudgedBits.class.getDeclaredClasses()) lookInside(inside, face);
    if (!found.equals(face)) {
      wrong++;
      System.out.println("the face is " + found + "\nbut due is " + face);
    }
    System.out.println(wrong == 0 ? "the face is as due" : wrong + " faults of the face");
    if (wrong != 0) System.exit(1);
  }

  static void addField(Field f, Set<String> found) {
    if (Modifier.isPrivate(f.getModifiers())) return;
    if (!Modifier.toString(f.getModifiers()).equals("public static final") || f.getType() != int.class) {
      found.add("field " + f);
      return;
    }
    try {
      found.add(f.getName() + " = " + f.getInt(null));
    } catch (IllegalAccessException e) {
      found.add("hidden " + f);
    }
  }

  static void addMethod(Method m, Set<String> found) {
    if (Modifier.isPrivate(m.getModifiers())) return;
    boolean ints = m.getReturnType() == int.class;
    for (Class<?> type : m.getParameterTypes()) ints &= type == int.class;
    boolean open = Modifier.toString(m.getModifiers()).equals("public");
    found.add(ints && open ? m.getName() + " " + m.getParameterCount() : "method " + m);
  }

  static void lookInside(Class<?> inside, Set<String> face) {
    for (Method m : inside.getDeclaredMethods()) {
      for (String member : face) {
        if (member.startsWith(m.getName() + " ")) fault(m + " bears the name of a public method");
      }
    }
    int fields = 0;
    for (Field f : inside.getDeclaredFields()) {
      if (!Modifier.isStatic(f.getModifiers())) fields++;
      else if (!Modifier.isFinal(f.getModifiers())) fault(f + " is static and not final");
    }
    if (fields > 20) fault(inside + " has " + fields + " fields");
  }

  static void fault(String told) {
    wrong++;
    System.out.println(told);
  }
}
