import java.io.IOException;
import java.lang.reflect.Constructor;
import java.lang.reflect.Field;
import java.lang.reflect.Method;
import java.lang.reflect.Modifier;
import java.nio.charset.StandardCharsets;
import java.nio.file.Files;
import java.nio.file.Path;
import java.util.ArrayList;
import java.util.Arrays;
import java.util.Collections;
import java.util.IdentityHashMap;
import java.util.List;
import java.util.Map;
import java.util.Set;
import java.util.TreeMap;
import java.util.TreeSet;
import java.util.regex.Matcher;
import java.util.regex.Pattern;

/** The document's face, and those rules of LANGUAGE.md that can be seen from outside or in the text. */
public final class RulesTest {
  private static final Check check = new Check("RulesTest");
  private static final int CALLS = 31;

  public static void main(String[] args) throws IOException {
    String source = Files.readString(Path.of(args[0]), StandardCharsets.ISO_8859_1);
    String document = Files.readString(Path.of(args[1]), StandardCharsets.UTF_8);
    face(faceOf(document));
    sameWords(document, source);
    insideClasses();
    sourceText(source);
    room();
    check.end();
  }

  private static String signature(Method m) {
    StringBuilder text = new StringBuilder(m.getName()).append('(');
    for (Class<?> t : m.getParameterTypes()) {
      if (text.charAt(text.length() - 1) != '(') text.append(',');
      text.append(t.getName());
    }
    return text.append(')').toString();
  }

  /** The calls that the document's face has, each as its name and the types that it takes. */
  private static Set<String> faceOf(String document) {
    Set<String> calls = new TreeSet<>();
    Matcher call = Pattern.compile("(?m)^    public int (\\w+)\\(([^)]*)\\);$").matcher(document);
    while (call.find()) {
      calls.add(call.group(1) + "(" + call.group(2).replaceAll(" \\w+(?=,|$)", "").replace(", ", ",") + ")");
    }
    check.due("calls of the document's face", calls.size(), CALLS);
    return calls;
  }

  /** Each row of the document's face stands in the source, its arguments' names and order, too. */
  private static void sameWords(String document, String source) {
    int from = document.indexOf("public final class LongSong {");
    int to = document.indexOf("}", from);
    int at = 0;
    for (String row : document.substring(from, to).split("\n")) {
      String words = row.strip();
      String wanted = words.endsWith(");") ? words.replace(");", ") {") : words;
      at = source.indexOf(wanted, at);
      check.holds("the source has, in the document's order: " + words, at >= 0);
      if (at < 0) return;
    }
  }

  private static void face(Set<String> due) {
    int mods = LongSong.class.getModifiers();
    check.holds("the class is public and final", Modifier.isPublic(mods) && Modifier.isFinal(mods));
    Set<String> seen = new TreeSet<>();
    Set<String> publicNames = new TreeSet<>();
    for (Method m : LongSong.class.getDeclaredMethods()) {
      if (m.isSynthetic()) continue;
      if (Modifier.isPrivate(m.getModifiers())) continue;
      seen.add(signature(m));
      publicNames.add(m.getName());
      check.holds(m + " is public, of the object, and answers an int", Modifier.isPublic(m.getModifiers())
          && !Modifier.isStatic(m.getModifiers()) && m.getReturnType() == int.class);
    }
    check.holds("the methods are the document's: " + seen, seen.equals(due));
    for (Method m : LongSong.class.getDeclaredMethods()) {
      check.holds(m + " bears a public one's name",
          !Modifier.isPrivate(m.getModifiers()) || !publicNames.contains(m.getName()));
    }
    Constructor<?>[] made = LongSong.class.getDeclaredConstructors();
    check.holds("one public constructor without arguments", made.length == 1
        && Modifier.isPublic(made[0].getModifiers()) && made[0].getParameterCount() == 0);
    Set<String> constants = new TreeSet<>();
    for (Field f : LongSong.class.getDeclaredFields()) {
      if (!Modifier.isPrivate(f.getModifiers())) constants.add(f.getName());
    }
    check.holds("the constants are the document's: " + constants,
        constants.equals(new TreeSet<>(List.of("NONE", "BAD", "STATE", "FULL"))));
  }

  private static void insideClasses() {
    Class<?>[] all = LongSong.class.getDeclaredClasses();
    check.holds("at most twelve classes", all.length < 12);
    List<Class<?>> every = new ArrayList<>(Arrays.asList(all));
    every.add(LongSong.class);
    for (Class<?> c : every) {
      check.holds(c + " is static", c == LongSong.class || Modifier.isStatic(c.getModifiers()));
      int fields = 0;
      for (Field f : c.getDeclaredFields()) {
        if (Modifier.isStatic(f.getModifiers())) check.holds(f + " is final", Modifier.isFinal(f.getModifiers()));
        else fields++;
      }
      check.holds(c + " has at most twenty fields", fields <= 20);
      for (Method m : c.getDeclaredMethods()) {
        check.holds(m + " has at most seven parameters", m.getParameterCount() <= 7);
      }
    }
  }

  private static void sourceText(String source) {
    String code = source.replaceAll("(?s)/\\*.*?\\*/", " ").replaceAll("//[^\n]*", " ");
    for (String word : new String[] {"throw", "throws", "try", "catch", "synchronized", "assert", "package",
        "double", "float", "System.out", "Random", "Thread", "equals", "hashCode", "toString"}) {
      check.holds("the word " + word, !Pattern.compile("\\b" + Pattern.quote(word) + "\\b").matcher(code).find());
    }
    check.holds("no lambda or arrow", !code.contains("->"));
    check.holds("no method reference", !code.contains("::"));
    check.holds("signs 1 to 127", code.chars().allMatch(c -> c > 0 && c < 128));
    Matcher imports = Pattern.compile("import\\s+([\\w.]+)\\s*;").matcher(code);
    while (imports.find()) check.holds(imports.group(), imports.group(1).equals("java.util.Arrays"));
    check.holds("Exact", !code.contains("Exact"));
    shortMethods(source);
    madeOnce(code);
    callsAreNotDeep(code);
  }

  /** By names alone: each method of the file has a name of its own, so that no path is taken for another's. */
  private static void callsAreNotDeep(String code) {
    Map<String, String> bodies = new TreeMap<>();
    Matcher m = Pattern.compile("(?ms)^( +)(?:public|private) (?:static )?[\\w\\[\\]]+ (\\w+)\\([^;{}]*\\{\\n(.*?)^\\1\\}$")
        .matcher(code);
    while (m.find()) check.holds("one method is called " + m.group(2), bodies.put(m.group(2), m.group(3)) == null);
    check.holds("all methods are found", bodies.size() > 100);
    for (String method : bodies.keySet()) {
      check.holds("calls below " + method + " go at most eight deep", depth(method, bodies, 1) <= 8);
    }
  }

  private static int depth(String method, Map<String, String> bodies, int level) {
    int deepest = level;
    Matcher call = Pattern.compile("\\b(\\w+)\\(").matcher(bodies.get(method));
    // Beyond eight it is too deep in any case, and in a circle it would never end.
    while (level <= 8 && call.find()) {
      if (bodies.containsKey(call.group(1))) deepest = Math.max(deepest, depth(call.group(1), bodies, level + 1));
      else if (call.group(1).matches("min|bitCount|fill|arraycopy")) deepest = Math.max(deepest, level + 1);
    }
    return deepest;
  }

  /** Objects are made in the fields and in the constructor of LongSong alone, so that calls make none. */
  private static void madeOnce(String code) {
    for (String line : code.split("\n")) {
      if (!line.contains("new ")) continue;
      boolean field = line.matches("\\s+private final \\w+\\[\\] \\w+ = new \\w+\\[.*\\];\\s*");
      boolean inConstructor = line.matches("        \\w+ = new \\w+[\\[(].*;\\s*");
      check.holds("made once: " + line, field || inConstructor);
    }
  }

  private static void shortMethods(String source) {
    String[] lines = source.split("\n");
    int start = -1;
    String indent = "";
    for (int k = 0; k < lines.length; k++) {
      Matcher head = Pattern.compile("^(\\s+)(?:public|private).*\\)\\s*\\{$").matcher(lines[k]);
      if (head.matches()) {
        start = k;
        indent = head.group(1);
      } else if (start >= 0 && lines[k].equals(indent + "}")) {
        check.holds("the method of line " + (start + 1) + " has at most sixty lines", k - start <= 60);
        start = -1;
      }
    }
  }

  /** What one object holds in all; no call makes anything more. */
  private static void room() {
    int[] made = new int[2];
    countInto(new LongSong(), made, Collections.newSetFromMap(new IdentityHashMap<>()));
    System.out.println("RulesTest: an object is " + made[0] + " objects and arrays with " + made[1] + " elements");
    check.holds("few objects", made[0] < 100);
    check.holds("few elements", made[1] < 20000);
  }

  private static void countInto(Object o, int[] made, Set<Object> seen) {
    if (!seen.add(o)) return;
    made[0]++;
    if (o.getClass().isArray()) {
      made[1] += java.lang.reflect.Array.getLength(o);
      return;
    }
    for (Field f : o.getClass().getDeclaredFields()) {
      if (Modifier.isStatic(f.getModifiers())) continue;
      made[1]++;
      if (f.getType().isPrimitive()) continue;
      f.setAccessible(true);
      try {
        Object part = f.get(o);
        if (part != null) countInto(part, made, seen);
      } catch (IllegalAccessException e) {
        check.holds("can look at " + f, false);
      }
    }
  }
}
