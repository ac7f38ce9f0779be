import java.lang.reflect.InvocationTargetException;
import java.lang.reflect.Method;
import java.lang.reflect.Modifier;
import java.util.ArrayList;
import java.util.Comparator;
import java.util.List;
import java.util.Random;

/** Any call with any arguments in any state, behind the 512th call, too: none throws, and all end. */
public final class NoThrowTest {
  private static final Check check = new Check("NoThrowTest");
  private static final int OBJECTS = 100, CALLS = 2500;
  private static final Random chance = new Random(20261116);
  private static final List<Method> face = face();

  private NoThrowTest() { }

  public static void main(String[] args) throws IllegalAccessException {
    for (int o = 0; o < OBJECTS; o++) {
      LongSong song = new LongSong();
      for (int c = 0; c < CALLS; c++) {
        if (chance.nextInt(6) == 0) tell(song);
        ask(song, face.get(chance.nextInt(face.size())));
      }
    }
    check.end();
  }

  /** Sorted, so that the same chance makes the same calls on every machine. */
  private static List<Method> face() {
    List<Method> calls = new ArrayList<>();
    for (Method m : LongSong.class.getDeclaredMethods()) {
      if (Modifier.isPublic(m.getModifiers())) calls.add(m);
    }
    calls.sort(Comparator.comparing(Method::getName));
    return calls;
  }

  private static void ask(LongSong song, Method call) throws IllegalAccessException {
    Class<?>[] types = call.getParameterTypes();
    Object[] args = new Object[types.length];
    long[] told = new long[types.length];
    for (int k = 0; k < types.length; k++) {
      told[k] = types[k] == int.class ? anyInt() : anyLong();
      if (types[k] == int.class) args[k] = (int) told[k];
      else args[k] = told[k];
    }
    String thrown = "";
    try {
      call.invoke(song, args);
    } catch (InvocationTargetException e) {
      thrown = e.getCause().toString();
    }
    check.holds(Run.text(call.getName(), told) + " threw " + thrown, thrown.isEmpty());
  }

  /** Mostly small ones, with which calls go through. */
  private static int anyInt() {
    switch (chance.nextInt(12)) {
      case 0: return Integer.MIN_VALUE + chance.nextInt(3);
      case 1: return Integer.MAX_VALUE - chance.nextInt(3);
      case 2: return chance.nextInt(2001) - 1000;
      case 3: return chance.nextInt();
      case 4: return chance.nextInt(50) - 5;
      default: return chance.nextInt(8) - 1;
    }
  }

  private static long anyLong() {
    switch (chance.nextInt(6)) {
      case 0: return Long.MIN_VALUE + chance.nextInt(3);
      case 1: return Long.MAX_VALUE - chance.nextInt(3);
      case 2: return chance.nextInt(100);
      default: return chance.nextLong();
    }
  }

  /** A text that is mostly right, byte by byte. */
  private static void tell(LongSong song) {
    StringBuilder text = new StringBuilder().append(letter('A')).append('=');
    items(text, chance.nextInt(6));
    song.scene();
    for (int k = 0; k < text.length(); k++) song.feed(text.charAt(k), 1);
    song.scene();
  }

  private static char letter(char first) {
    return (char) (first + chance.nextInt(8));
  }

  private static void items(StringBuilder text, int depth) {
    for (int many = 1 + chance.nextInt(3); many > 0; many--) {
      int kind = depth == 0 ? 0 : chance.nextInt(8);
      if (kind < 3) text.append(letter('a'));
      else if (kind == 3) text.append(letter('A'));
      else bracket(text, depth, kind);
    }
  }

  private static void bracket(StringBuilder text, int depth, int kind) {
    text.append(kind == 4 ? '[' : kind == 5 ? '(' : '{');
    items(text, depth - 1);
    if (kind == 5) {
      text.append('|');
      items(text, depth - 1);
    }
    text.append(kind == 4 ? ']' : kind == 5 ? ')' : '}');
  }
}
