import java.lang.reflect.InvocationTargetException;
import java.lang.reflect.Method;
import java.util.ArrayList;
import java.util.HashMap;
import java.util.List;
import java.util.Map;

/** One LongSong whose calls are told by name, so that a wrong answer can be told with its call. */
final class Run {
  static final int NONE = -1, BAD = -2, STATE = -3, FULL = -4, NOBODY = -5, LOST = 40;
  /** The document answers for so many calls of one object. */
  static final int MOST_CALLS = 512;
  private static final Map<String, Method> FACE = face();

  private final Check check;
  private final LongSong song = new LongSong();
  private int calls = 0;

  Run(Check check) {
    this.check = check;
  }

  private static Map<String, Method> face() {
    Map<String, Method> face = new HashMap<>();
    for (Method m : LongSong.class.getDeclaredMethods()) face.put(m.getName(), m);
    return face;
  }

  /** A new object that is checked by the same one. */
  Run another() {
    return new Run(check);
  }

  int calls() {
    return calls;
  }

  static String text(String call, long... args) {
    StringBuilder text = new StringBuilder(call).append('(');
    for (int k = 0; k < args.length; k++) text.append(k == 0 ? "" : ", ").append(args[k]);
    return text.append(')').toString();
  }

  int ask(String call, long... args) {
    calls++;
    if (calls == MOST_CALLS + 1) check.holds("no object is asked more than " + MOST_CALLS + " times", false);
    try {
      return (Integer) FACE.get(call).invoke(song, boxed(call, args));
    } catch (InvocationTargetException e) {
      check.holds(text(call, args) + " threw " + e.getCause(), false);
    } catch (IllegalAccessException e) {
      check.holds(text(call, args) + " can't be called", false);
    }
    return Integer.MIN_VALUE;
  }

  private static Object[] boxed(String call, long[] args) {
    Class<?>[] types = FACE.get(call).getParameterTypes();
    List<Object> all = new ArrayList<>();
    for (int k = 0; k < args.length; k++) {
      if (types[k] == int.class) all.add(Math.toIntExact(args[k]));
      else all.add(args[k]);
    }
    return all.toArray();
  }

  Run holds(String what, boolean holds) {
    check.holds(what, holds);
    return this;
  }

  Run due(int want, String call, long... args) {
    check.due(text(call, args), ask(call, args), want);
    return this;
  }

  /** Asked of what must not be refused, where the answer itself is looked at elsewhere. */
  Run taken(String call, long... args) {
    int answer = ask(call, args);
    check.holds(text(call, args) + " is refused by " + answer, answer > NONE || answer < FULL);
    return this;
  }

  /** An argument that goes from least to most: both edges, and one step to each side of them. */
  Run edges(String call, int argument, long least, long most, int refusal, long... args) {
    long[] steps = {least - 1, least, least + 1, most - 1, most, most + 1};
    for (long step : steps) {
      long[] asked = args.clone();
      asked[argument] = step;
      if (step < least || step > most) due(refusal, call, asked);
      else taken(call, asked);
    }
    return this;
  }

  /** Feeds a text in pieces of at most eight bytes. */
  Run feed(String text) {
    for (int k = 0; k < text.length(); k += 8) {
      long w = 0;
      int n = Math.min(8, text.length() - k);
      for (int b = 0; b < n; b++) w = w << 8 | text.charAt(k + b);
      taken("feed", w, n);
    }
    return this;
  }

  Run scene(int want, String text) {
    feed(text);
    int answer = ask("scene");
    check.due("scene() of " + text, answer, want);
    return this;
  }

  /** Lines of the told slots, from line 0 on, each of four and six light beats. */
  Run lines(String slots) {
    taken("half", 4, 0, -1).taken("half", 6, 0, -1);
    for (int k = 0; k < slots.length(); k++) due(k, "line", 0, 1, slots.charAt(k) - 'a', 0, 0);
    return this;
  }

  /** A singer more, who has learnt these lines by itself in year 0. */
  Run singer(int born, int... lines) {
    int number = ask("singer", born);
    for (int line : lines) taken("learn", number, line, -1, 0);
    return this;
  }

  Run row(int... lines) {
    for (int k = 0; k < lines.length; k++) due(k + 1, "put", k, lines[k]);
    return this;
  }

  /** So many lines, all the same, as the row that is gathered. */
  Run row(int line, int many, boolean lostAtEnd) {
    for (int k = 0; k < many; k++) due(k + 1, "put", k, lostAtEnd && k == many - 1 ? LOST : line);
    return this;
  }

  Run sung(int... lines) {
    for (int k = 0; k < lines.length; k++) due(lines[k], "sung", k);
    return due(NONE, "sung", lines.length);
  }
}
