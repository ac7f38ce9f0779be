import java.util.Random;

/** Runs of calls by chance (always the same ones): LongSong must answer as SlowSong does. */
public final class SlowSongTest {
  private static final int OBJECTS = 1500, CALLS = 512;
  private static final int[] OFTEN = {
    8, 3, 14, 2, 8, 4, 3, 0, 16, 2, 8, 5, 4, 2, 14, 5, 6, 6, 4, 6, 3, 5, 5, 5, 20, 14, 6, 8, 8, 12, 4};
  private final Check check;
  private final Random chance;
  private LongSong fast;
  private SlowSong slow;
  private int mostSingers;
  // What was sung latest, and by whom, so that rows are often read back where they come from.
  private int lastScene, lastSinger, lastYear;

  private SlowSongTest(Check check, long seed) {
    this.check = check;
    chance = new Random(seed);
  }

  public static void main(String[] args) {
    Check check = new Check("SlowSongTest");
    SlowSongTest test = new SlowSongTest(check, 20261116L);
    for (int k = 0; k < OBJECTS; k++) test.run(k % 3);
    for (int k = 0; k < OBJECTS; k++) test.readLongSongs();
    check.end();
  }

  /** Mostly from least to most, now and then one beyond or far off. */
  private int from(int least, int most) {
    int off = chance.nextInt(120);
    if (off == 0) return least - 1;
    if (off == 1) return most + 1;
    if (off == 2) return chance.nextInt();
    return most < least ? least : least + chance.nextInt(most - least + 1);
  }

  private int year() { return chance.nextInt(30) == 0 ? from(0, 999) : 10 + chance.nextInt(50); }
  private int entryYear() { return chance.nextInt(20) == 0 ? from(0, 999) : chance.nextInt(40); }
  private int known() { return chance.nextInt(3) > 0 ? -1 : from(-1, slow.book.size()); }
  private int aLine() { return from(0, Math.min(slow.lines.size() - 1, 5)); }
  private int aSinger() { return from(0, slow.born.size() - 1); }
  private int aHalf() { return from(0, slow.halves.size() - 1); }
  private int aScene() { return from(0, 3); }

  private void text(StringBuilder out, int depth) {
    int many = 1 + chance.nextInt(depth == 0 ? 6 : 2);
    for (int k = 0; k < many; k++) {
      int kind = chance.nextInt(depth > 2 ? 5 : 10);
      if (kind < 4) out.append((char) ('a' + chance.nextInt(3)));
      else if (kind == 4) out.append((char) ('A' + chance.nextInt(3)));
      else if (kind < 7) { out.append('['); text(out, depth + 1); out.append(']'); }
      else if (kind < 9) { out.append('{'); text(out, depth + 1); out.append('}'); }
      else { out.append('('); text(out, depth + 1); out.append('|'); text(out, depth + 1); out.append(')'); }
    }
  }

  private void tellScene() {
    StringBuilder text = new StringBuilder();
    text.append((char) ('A' + chance.nextInt(4))).append('=');
    text(text, chance.nextInt(2));
    if (chance.nextInt(5) == 0) text.deleteCharAt(chance.nextInt(text.length()));
    if (chance.nextInt(5) == 0) {
      text.insert(chance.nextInt(text.length() + 1), "aAbB=[]{}(|)hHiI \0\u00ff".charAt(chance.nextInt(19)));
    }
    for (int k = 0; k < text.length(); k += 8) {
      long w = chance.nextInt();
      int n = Math.min(8, text.length() - k);
      for (int b = 0; b < n; b++) w = w << 8 | text.charAt(k + b);
      check.due("feed", fast.feed(w, n), slow.feed(w, n));
    }
    check.due("scene " + text, fast.scene(), slow.scene());
  }

  private void run(int kind) {
    fast = new LongSong();
    slow = new SlowSong();
    mostSingers = kind == 0 ? 8 : 1 + chance.nextInt(4);
    int calls = 0;
    if (kind > 0) {
      for (int k = 0; k < 5; k++) call(0);
      for (int k = 0; k < 6; k++) call(2);
      for (int k = 0; k < 3; k++) tellScene();
      for (int k = 0; k < mostSingers; k++) call(11);
      for (int k = 0; k < 8 * mostSingers; k++) call(13);
      calls = 60 + 8 * mostSingers;
    }
    int sum = 0;
    for (int n : OFTEN) sum += n;
    while (calls < CALLS - 80) {
      int which = 0;
      for (int at = chance.nextInt(sum); at >= OFTEN[which]; which++) at -= OFTEN[which];
      call(which);
      calls += which == 8 ? 9 : 1;
    }
    compareAll();
  }

  /** One singer who knows a line or two for each slot, and songs as long as they come. */
  private void readLongSongs() {
    fast = new LongSong();
    slow = new SlowSong();
    fast.half(4, 0, -1);
    slow.half(4, 0, -1);
    fast.singer(0);
    slow.singer(0);
    for (int l = 0; l < 4; l++) {
      int slot = l == 3 ? chance.nextInt(3) : l;
      check.due("line", fast.line(0, 0, slot, 0, 0), slow.line(0, 0, slot, 0, 0));
      check.due("learn", fast.learn(0, l, -1, l), slow.learn(0, l, -1, l));
    }
    int hall = 2 + chance.nextInt(2);
    check.due("hall", fast.hall(hall), slow.hall(hall));
    for (int k = 0; k < 5; k++) tellScene();
    for (int k = 0; k < 12; k++) readLongSong(chance.nextInt(4));
  }

  private void readLongSong(int scene) {
    long number = chance.nextLong() >>> 1;
    check.due("sing", fast.sing(scene, 0, 9, number), slow.sing(scene, 0, 9, number));
    gather();
    check.due("runs", fast.runs(scene, 0, 9, -1), slow.runs(scene, 0, 9, -1));
    int r = slow.record(0, scene, 9), known = 3 + chance.nextInt(2);
    check.due("record", fast.record(0, scene, 9), r);
    check.due("heard", fast.heard(r, known, 0), slow.heard(r, known, 0));
    for (int place = 0; place < slow.row.size(); place++) {
      check.due("filled", fast.filled(r, known, place), slow.filled(r, known, place));
    }
  }

  private void compareAll() {
    for (int what = -1; what < 10; what++) check.due("count", fast.count(what), slow.count(what));
    for (int l = 0; l < Math.min(slow.lines.size(), 6); l++) {
      for (int what = 0; what < 8; what++) check.due("told", fast.told(l, what), slow.told(l, what));
    }
  }

  private void call(int which) {
    int a, b, c, d;
    switch (which) {
      case 0: a = from(2, 7); b = from(0, (1 << Math.max(0, Math.min(a, 8))) - 1); c = from(-1, a);
        check.due("half " + a + " " + b + " " + c, fast.half(a, b, c), slow.half(a, b, c)); break;
      case 1: a = from(0, 9) % 4; b = from(1, 4); c = from(0, (1 << Math.max(0, Math.min(b, 4))) - 1);
        check.due("name", fast.name(a, b, c), slow.name(a, b, c)); break;
      case 2: a = aHalf(); b = aHalf(); c = from(0, 7) % 3; d = from(0, 9) % 4; int slip = from(0, 1);
        check.due("line", fast.line(a, b, c, d, slip), slow.line(a, b, c, d, slip)); break;
      case 3: a = from(0, 2); b = a < 2 ? from(4, 7) : 1 << from(0, 11) & from(0, 4095);
        if (chance.nextInt(20) == 0) b = from(1, 12);
        check.due("metre", fast.metre(a, b), slow.metre(a, b)); break;
      case 4: a = from(0, slow.lines.size() - 1); b = from(0, 7);
        check.due("told", fast.told(a, b), slow.told(a, b)); break;
      case 5: a = from(0, 9) % 4; b = from(0, 9) % 4;
        check.due("swap", fast.swap(a, b), slow.swap(a, b)); break;
      case 6: a = from(-1, 4);
        check.due("broken", fast.broken(a), slow.broken(a)); break;
      case 7: break;
      case 8: tellScene(); break;
      case 9: a = from(0, 3);
        check.due("hall", fast.hall(a), slow.hall(a)); break;
      case 10: singAny(); break;
      case 11: a = from(0, 40);
        if (slow.born.size() >= mostSingers && mostSingers < 8) break;
        check.due("singer", fast.singer(a), slow.singer(a)); break;
      case 12: a = aSinger(); b = from(0, 9) % 3;
        check.due("village", fast.village(a, b), slow.village(a, b)); break;
      case 13: a = aSinger(); b = aLine(); c = from(-1, slow.born.size() - 1); d = entryYear();
        check.due("learn", fast.learn(a, b, c, d), slow.learn(a, b, c, d)); break;
      case 14: a = aSinger(); b = aLine(); c = entryYear();
        if (chance.nextInt(3) == 0) check.due("forget", fast.forget(a, b, c), slow.forget(a, b, c)); break;
      default: ask(which);
    }
  }

  private void singAny() {
    int a = aScene(), b = aSinger(), c = year();
    long number = chance.nextInt(30) == 0 ? chance.nextLong() : chance.nextLong() >>> 1 + chance.nextInt(60);
    int answer = slow.sing(a, b, c, number);
    check.due("sing", fast.sing(a, b, c, number), answer);
    if (answer >= 0) {
      lastScene = a;
      lastSinger = b;
      lastYear = c;
    }
    for (int k = -1; k <= slow.sung.size(); k++) check.due("sung", fast.sung(k), slow.sung(k));
  }

  private void ask(int which) {
    boolean likeLast = chance.nextInt(4) > 0 && which >= 25;
    int a = likeLast ? lastSinger : aSinger(), y = likeLast ? lastYear : year(), k = known(), b, w;
    switch (which) {
      case 15: b = aLine(); check.due("has", fast.has(a, b, y, k), slow.has(a, b, y, k)); break;
      case 16: check.due("stock", fast.stock(a, y, k), slow.stock(a, y, k)); break;
      case 17: b = aSinger(); check.due("unlike", fast.unlike(a, b, y, k), slow.unlike(a, b, y, k)); break;
      case 18: check.due("master", fast.master(a, y, k), slow.master(a, y, k)); break;
      case 19: check.due("lineage", fast.lineage(y, k), slow.lineage(y, k)); break;
      case 20: b = aSinger(); check.due("loan", fast.loan(a, b, y, k), slow.loan(a, b, y, k)); break;
      case 21: w = from(-1, 2); check.due("core", fast.core(y, k, w), slow.core(y, k, w)); break;
      case 22: b = aLine(); check.due("whose", fast.whose(b, y, k), slow.whose(b, y, k)); break;
      case 23: case 24: gather(); break;
      case 25: b = likeLast ? lastScene : aScene(); check.due("runs", fast.runs(b, a, y, k), slow.runs(b, a, y, k)); break;
      case 26: check.due("forged", fast.forged(a, y, k), slow.forged(a, y, k)); break;
      case 27: b = likeLast ? lastScene : aScene(); check.due("record", fast.record(a, b, y), slow.record(a, b, y)); break;
      case 28: b = from(0, slow.recordings.size() - 1); w = from(0, 3);
        check.due("heard", fast.heard(b, k, w), slow.heard(b, k, w)); break;
      case 29: b = from(0, slow.recordings.size() - 1);
        for (w = -1; w < 25; w += 1 + Math.max(0, w / 4)) {
          check.due("filled", fast.filled(b, k, w), slow.filled(b, k, w));
        }
        break;
      default: w = from(0, 8); check.due("count", fast.count(w), slow.count(w));
    }
  }

  /** Mostly something that was sung, with gaps; else any few lines. */
  private void gather() {
    int size = chance.nextInt(6) > 0 ? Math.min(24, slow.sung.size()) : 1 + chance.nextInt(4);
    boolean likeSung = size > 0 && size <= slow.sung.size() && chance.nextInt(6) > 0;
    if (!likeSung) size = Math.min(size, SlowSong.SHORT);
    int gaps = 1 + chance.nextInt(4);
    for (int i = 0; i < size; i++) {
      int line = chance.nextInt(gaps) == 0 ? 40 : likeSung ? slow.sung.get(i) : aLine();
      check.due("put", fast.put(i, line), slow.put(i, line));
    }
    if (chance.nextInt(10) == 0) {
      int i = from(0, Math.min(24, slow.row.size() + 1)), line = aLine();
      check.due("put", fast.put(i, line), slow.put(i, line));
    }
  }
}
