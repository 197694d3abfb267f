import java.lang.reflect.Array;
import java.lang.reflect.Constructor;
import java.lang.reflect.Executable;
import java.lang.reflect.Field;
import java.lang.reflect.Method;
import java.lang.reflect.Modifier;
import java.nio.file.Files;
import java.nio.file.Path;
import java.util.ArrayList;
import java.util.Arrays;
import java.util.Collections;
import java.util.IdentityHashMap;
import java.util.List;
import java.util.Set;
import java.util.TreeSet;
import java.util.regex.Matcher;
import java.util.regex.Pattern;

/** What of ../shared/LANGUAGE.md can be seen in the file and in the compiled class. */
public final class LanguageTest {
  private static final List<String> FACE = List.of(
      "int tray(int,int,int)", "int clerk()", "int act(int,int,int,int,int)", "int baton(int,int)",
      "int patience(int,int,int)", "int throwing(int,int,int)", "int run()", "int answer(int,int)",
      "int outcome(int,int)", "int waited(int,int)", "int mark(int,int)", "int count(int)", "int size(int)",
      "int card(int,int,int)", "int asked()", "int about(int,int)", "int fits(int)", "int order(int,int)",
      "int tries()", "int first()", "int explore(int)", "int explored(int)", "long digest()", "int clear()");
  private static int wrong = 0;

  private static void need(boolean holds, String what) {
    if (holds) return;
    wrong++;
    System.out.println("LANGUAGE: " + what);
  }

  public static void main(String[] args) throws Exception {
    face();
    nested();
    String source = Files.readString(Path.of("src/main/java/CardIndex.java"));
    words(withoutComments(source));
    lengths(source);
    room();
    System.out.println("LanguageTest: " + wrong + " wrong");
    if (wrong != 0) System.exit(1);
  }

  private static String signature(Method m) {
    List<String> types = new ArrayList<>();
    for (Class<?> type : m.getParameterTypes()) types.add(type.getSimpleName());
    return m.getReturnType().getSimpleName() + " " + m.getName() + "(" + String.join(",", types) + ")";
  }

  private static void face() throws Exception {
    Set<String> seen = new TreeSet<>();
    for (Method m : CardIndex.class.getDeclaredMethods()) {
      if (Modifier.isPublic(m.getModifiers())) seen.add(signature(m));
      else need(Modifier.isPrivate(m.getModifiers()), "rule 1: " + m);
    }
    need(seen.equals(new TreeSet<>(FACE)), "rule 1: the public methods are " + seen);
    need(Modifier.isFinal(CardIndex.class.getModifiers()), "rule 1: the class is final");
    for (Field f : CardIndex.class.getDeclaredFields()) {
      boolean told = List.of("NONE", "BAD", "NO", "FULL").contains(f.getName());
      need(told ? Modifier.isPublic(f.getModifiers()) : Modifier.isPrivate(f.getModifiers()), "rule 1: " + f);
    }
    for (Constructor<?> c : CardIndex.class.getDeclaredConstructors()) {
      need(Modifier.isPublic(c.getModifiers()) && c.getParameterCount() == 0, "rule 1: " + c);
    }
  }

  private static void nested() {
    Set<String> publicNames = new TreeSet<>();
    for (String line : FACE) publicNames.add(line.replaceAll(".* (\\w+)\\(.*", "$1"));
    Class<?>[] classes = CardIndex.class.getDeclaredClasses();
    need(classes.length < 12, "rule 11: classes");
    List<Class<?>> all = new ArrayList<>(List.of(classes));
    all.add(CardIndex.class);
    for (Class<?> c : all) {
      need(c == CardIndex.class || Modifier.isStatic(c.getModifiers()), "rule 2: " + c);
      int fields = 0;
      for (Field f : c.getDeclaredFields()) {
        if (Modifier.isStatic(f.getModifiers())) need(Modifier.isFinal(f.getModifiers()), "rule 5: " + f);
        else fields++;
      }
      need(fields <= 20, "rule 11: fields of " + c);
      for (Method m : c.getDeclaredMethods()) {
        need(Modifier.isPublic(m.getModifiers()) || !publicNames.contains(m.getName()), "rule 1: " + m);
        parameters(m);
      }
      for (Constructor<?> made : c.getDeclaredConstructors()) parameters(made);
    }
  }

  private static void parameters(Executable e) {
    need(e.getParameterCount() <= 7, "rule 11: " + e);
  }

  private static String withoutComments(String source) {
    return source.replaceAll("(?s)/\\*.*?\\*/", "").replaceAll("//[^\n]*", "");
  }

  private static void words(String code) {
    for (String word : List.of("throw", "throws", "try", "catch", "finally", "synchronized", "assert", "package",
        "volatile", "native", "var", "equals", "hashCode", "toString", "Thread", "Random", "System.nanoTime",
        "System.currentTimeMillis", "Exact", "Object", "float", "double")) {
      need(!Pattern.compile("\\b" + Pattern.quote(word) + "\\b").matcher(code).find(), "the word " + word);
    }
    for (String sign : List.of("->", "::", "\"", "@", "static {")) need(!code.contains(sign), "the sign " + sign);
    for (char c : code.toCharArray()) need(c < 128, "rule 3: the character " + (int) c);
    Matcher imports = Pattern.compile("import ([^;]+);").matcher(code);
    while (imports.find()) need(imports.group(1).equals("java.util.Arrays"), "rule 4: " + imports.group(1));
    Matcher library = Pattern.compile("\\b(Arrays|System|Integer|Long|Math)\\.(\\w+)").matcher(code);
    while (library.find()) {
      String call = library.group(1) + "." + library.group(2);
      need(List.of("Arrays.fill", "System.arraycopy", "Integer.bitCount").contains(call), "rule 4: " + call);
    }
    Matcher made = Pattern.compile("\\bnew (\\w+)").matcher(code);
    while (made.find()) {
      String indent = code.substring(code.lastIndexOf('\n', made.start()) + 1, made.start());
      String type = made.group(1);
      need(List.of("int", "Act", "Cards", "Clerk", "Tray", "Stripe", "Desk", "Run", "Checker", "Explorer")
          .contains(type), "rule 12: new " + type + " behind " + indent);
    }
  }

  /** Counts the objects and arrays that hang on this one, and their fields and elements. */
  private static void weigh(Object root, Set<Object> seen, long[] sums) throws Exception {
    if (root == null || !seen.add(root)) return;
    sums[0]++;
    if (root.getClass().isArray()) {
      int length = Array.getLength(root);
      sums[1] += length;
      if (root instanceof Object[] parts) for (Object part : parts) weigh(part, seen, sums);
      return;
    }
    for (Field f : root.getClass().getDeclaredFields()) {
      if (Modifier.isStatic(f.getModifiers())) continue;
      sums[1]++;
      f.setAccessible(true);
      if (!f.getType().isPrimitive()) weigh(f.get(root), seen, sums);
    }
  }

  private static long[] weight(CardIndex x) throws Exception {
    long[] sums = new long[2];
    weigh(x, Collections.newSetFromMap(new IdentityHashMap<>()), sums);
    return sums;
  }

  /** An object is small, and stays as it is through all calls: they make none (see words()). */
  private static void room() throws Exception {
    CardIndex x = new CardIndex();
    long[] before = weight(x);
    for (int t = 0; t < 6; t++) x.tray(t, 8, t % 3);
    for (int c = 0; c < 5; c++) x.clerk();
    for (int i = 0; i < 40; i++) x.act(i % 5, i % 6, 0, i % 32, i);
    for (int i = 0; i < 16; i++) x.explore(60);
    x.first();
    long[] after = weight(x);
    need(before[0] <= 250 && before[1] <= 12000, "rule 12: " + before[0] + " objects, " + before[1] + " elements");
    // The constant rows of steps hang on the acts too, others of them behind the calls.
    need(after[0] <= before[0] + 10 && after[1] <= before[1] + 60,
        "rule 12: " + after[0] + " objects, " + after[1] + " elements behind the calls");
  }

  private static void lengths(String source) {
    String[] lines = source.split("\n");
    int begin = -1;
    for (int i = 0; i < lines.length; i++) {
      need(lines[i].length() <= 120, "line " + (i + 1) + " is long");
      if (lines[i].matches(" {2,4}(?!.*\\b(class|new)\\b)[\\w<>\\[\\] ]+\\([^;]*\\) \\{")) begin = i;
      if (begin >= 0 && lines[i].matches(" {2,4}}")) {
        need(i - begin < 60, "rule 11: the method at line " + (begin + 1) + " is long");
        begin = -1;
      }
    }
  }
}
