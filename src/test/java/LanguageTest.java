import java.lang.reflect.Array;
import java.lang.reflect.Constructor;
import java.lang.reflect.Field;
import java.lang.reflect.Method;
import java.lang.reflect.Modifier;
import java.nio.charset.StandardCharsets;
import java.nio.file.Files;
import java.nio.file.Path;
import java.util.ArrayList;
import java.util.IdentityHashMap;
import java.util.List;
import java.util.Map;
import java.util.TreeSet;
import java.util.regex.Matcher;
import java.util.regex.Pattern;

/** The document's public face, and those rules of LANGUAGE.md that can be seen from outside; run where src is. */
public final class LanguageTest {
  private static final String FACE = "type(int,int)int wipe(int)int undo(int)int fault(int)int draws(int)int slice(int,int)int set(int,int)int "
      + "butter(int,int)int fire(int)int back(int)int read(int)int heat(int,int)int state(int,int)int held(int)int freed(int,int)int "
      + "spoilt()int quiet()int crowd(int)int move(int,int)int swap(int)int line(int)int bear()int seen(int,int,int)int forget()int "
      + "heats(int,int)int slots(int)int ask(int)int window(int,int,int,int,int)long others(int,int)int sheet(int,int,int)int lose(int)int "
      + "lay(int,int,int,int)int get(int,int,int)int copy(int,int,int,int,int)int write(int,int)int count(int)int digest()long";
  private static final String FORBIDDEN = "\\b(import|package|throw|throws|try|catch|finally|synchronized|assert|volatile|native|protected|"
      + "Object|Thread|Random|System\\.(?!arraycopy\\b)\\w+|\\w+Exact|hashCode|toString|getClass)\\b|->|::|@";
  /** Of the library, what rule 4 lists: functions, and no constants such as Integer.MIN_VALUE. */
  private static final String LISTED = "(Integer|Long|Math)\\.[a-z]\\w*|System\\.arraycopy|Arrays\\.(copyOf|copyOfRange|fill)|List\\.of";
  private static int wrong = 0;

  private static void rule(int number, String what, boolean kept) {
    if (!kept) {
      wrong++;
      System.out.println("rule " + number + ": " + what);
    }
  }

  public static void main(String[] args) throws Exception {
    List<Class<?>> all = new ArrayList<>(List.of(ToastGaol.class.getDeclaredClasses()));
    face(all);
    all.add(ToastGaol.class);
    for (Class<?> c : all) classRules(c);
    rule(11, "at most twelve classes", all.size() <= 12);
    source(Files.readString(Path.of("src/main/java/ToastGaol.java"), StandardCharsets.ISO_8859_1));
    room();
    System.out.println(wrong == 0 ? "the rules are kept" : wrong + " rules are broken");
    if (wrong != 0) System.exit(1);
  }

  private static void face(List<Class<?>> inside) throws Exception {
    TreeSet<String> due = new TreeSet<>(List.of(FACE.split(" "))), got = new TreeSet<>(), names = new TreeSet<>();
    for (Method m : ToastGaol.class.getDeclaredMethods()) {
      if (Modifier.isPrivate(m.getModifiers())) continue;
      rule(1, m + " is public and no more", m.getModifiers() == Modifier.PUBLIC);
      StringBuilder b = new StringBuilder();
      for (Class<?> p : m.getParameterTypes()) b.append(b.length() == 0 ? "" : ",").append(p);
      got.add(m.getName() + "(" + b + ")" + m.getReturnType());
      names.add(m.getName());
    }
    rule(1, "the face is " + got, got.equals(due));
    rule(1, "public and final", ToastGaol.class.getModifiers() == (Modifier.PUBLIC | Modifier.FINAL));
    Constructor<?>[] made = ToastGaol.class.getDeclaredConstructors();
    rule(1, "one public constructor", made.length == 1 && made[0].getModifiers() == Modifier.PUBLIC && made[0].getParameterCount() == 0);
    int constants = 0;
    for (Field f : ToastGaol.class.getDeclaredFields()) {
      if (Modifier.isPrivate(f.getModifiers())) continue;
      constants++;
      rule(1, f + " is a constant of the document", List.of("NONE", "BAD", "NOT", "FULL").contains(f.getName()) && f.getType() == int.class);
    }
    rule(1, "four constants", constants == 4 && ToastGaol.NONE == -1 && ToastGaol.BAD == -2 && ToastGaol.NOT == -3 && ToastGaol.FULL == -4);
    inside.add(ToastGaol.class);
    for (Class<?> c : inside) {
      for (Method m : c.getDeclaredMethods()) rule(1, m + " bears a public name", c == ToastGaol.class && Modifier.isPublic(m.getModifiers()) || !names.contains(m.getName()));
    }
    inside.remove(ToastGaol.class);
  }

  private static void classRules(Class<?> c) {
    rule(2, c + " is static", c == ToastGaol.class || Modifier.isStatic(c.getModifiers()));
    int fields = 0;
    for (Field f : c.getDeclaredFields()) {
      rule(5, f + " is static and not final", !Modifier.isStatic(f.getModifiers()) || Modifier.isFinal(f.getModifiers()));
      if (!Modifier.isStatic(f.getModifiers())) fields++;
    }
    rule(11, c + " has " + fields + " fields", fields <= 20);
    for (Method m : c.getDeclaredMethods()) rule(11, m + " takes too much", m.getParameterCount() <= 7);
  }

  private static void source(String text) {
    for (int i = 0; i < text.length(); i++) rule(4, "a sign above 126", text.charAt(i) <= 126);
    String bare = text.replaceAll("(?s)/\\*.*?\\*/", "").replaceAll("//[^\n]*", "").replaceAll("\"[^\"\n]*\"", "\"\"");
    Matcher m = Pattern.compile(FORBIDDEN).matcher(bare);
    while (m.find()) rule(6, "the program has " + m.group(), false);
    library(bare);
    String[] lines = text.split("\n");
    int from = -1, depth = 0, opened = 0;
    for (int i = 0; i < lines.length; i++) {
      if (from < 0 && lines[i].matches(" +(public|private) .*\\) \\{")) {
        from = i;
        opened = depth;
      }
      for (char b : lines[i].toCharArray()) depth += b == '{' ? 1 : b == '}' ? -1 : 0;
      if (from >= 0 && depth == opened) {
        rule(11, "a method of " + (i - from + 1) + " lines: " + lines[from], i - from + 1 <= 60);
        from = -1;
      }
    }
  }

  private static void library(String bare) {
    TreeSet<String> own = new TreeSet<>();
    for (Class<?> c : ToastGaol.class.getDeclaredClasses()) own.add(c.getSimpleName());
    own.add("ToastGaol");
    Matcher m = Pattern.compile("\\b([A-Z]\\w*[a-z]\\w*)\\.\\w+").matcher(bare);
    while (m.find()) rule(4, "the program has " + m.group(), own.contains(m.group(1)) || m.group().matches(LISTED));
  }

  /** What one object keeps; the room of a run has some 600,000 objects and 7.3 million fields and elements. */
  private static void room() throws Exception {
    Map<Object, Boolean> met = new IdentityHashMap<>();
    long elements = walk(new ToastGaol(), met);
    System.out.println("one object keeps " + met.size() + " objects and arrays, " + elements + " fields and elements");
    rule(12, "it keeps too much", met.size() <= 300 && elements <= 5000);
  }

  private static long walk(Object o, Map<Object, Boolean> met) throws Exception {
    if (o == null || met.put(o, true) != null) return 0;
    long elements = 0;
    if (o.getClass().isArray()) {
      elements = Array.getLength(o);
      if (!o.getClass().getComponentType().isPrimitive()) for (int i = 0; i < Array.getLength(o); i++) elements += walk(Array.get(o, i), met);
      return elements;
    }
    for (Field f : o.getClass().getDeclaredFields()) {
      if (Modifier.isStatic(f.getModifiers())) continue;
      f.setAccessible(true);
      elements++;
      if (!f.getType().isPrimitive()) elements += walk(f.get(o), met);
    }
    return elements;
  }
}
