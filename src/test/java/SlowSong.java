import java.math.BigInteger;
import java.util.ArrayList;
import java.util.HashMap;
import java.util.HashSet;
import java.util.List;
import java.util.Map;
import java.util.Set;
import java.util.TreeSet;

/**
 * The document told a second time, as slowly and plainly as can be: halves are tried two by two, rows of a
 * scene are written out one by one. Only for small songs; LongSong is held against it call by call.
 */
final class SlowSong {
  static final int NONE = -1, BAD = -2, STATE = -3, FULL = -4;

  record Half(List<Boolean> beats, int gap) { }
  static final class Line { int first, second, slot, hero, slip; }
  record Entry(int singer, int line, int year, boolean learnt) { }
  record Recording(int singer, int scene, int year, List<Integer> row) { }
  /** kind: a slot 's', a scene 'S', or the sign of a bracket. */
  record Item(char kind, int n, List<Item> one, List<Item> two) { }
  static final class Fault extends RuntimeException {
    final int place;
    Fault(int place) { super(null, null, false, false); this.place = place; }
  }
  static final class CannotBe extends RuntimeException {
    CannotBe() { super(null, null, false, false); }
  }

  final List<Half> halves = new ArrayList<>();
  final List<List<Boolean>> names = new ArrayList<>();
  final List<Line> lines = new ArrayList<>();
  final int[] metre = {4, 6, 0};
  List<Integer> broken = new ArrayList<>();
  List<Integer> tape = new ArrayList<>();
  final Map<Integer, List<Item>> scenes = new HashMap<>();
  int hall = 1;
  List<Integer> sung = new ArrayList<>();
  final List<Integer> born = new ArrayList<>();
  final List<Integer> village = new ArrayList<>();
  final List<Entry> book = new ArrayList<>();
  List<Integer> row = new ArrayList<>();
  final List<Recording> recordings = new ArrayList<>();

  SlowSong() {
    for (int n = 0; n < 10; n++) names.add(beats(1, 0));
  }

  static List<Boolean> beats(int many, int heavy) {
    List<Boolean> list = new ArrayList<>();
    for (int b = 0; b < many; b++) list.add((heavy >> b & 1) == 1);
    return list;
  }

  boolean noHalf(int h) { return h < 0 || h >= halves.size(); }
  boolean noName(int n) { return n < 0 || n > 9; }
  boolean noLine(int l) { return l < 0 || l >= lines.size(); }
  boolean noScene(int s) { return !scenes.containsKey(s); }
  boolean noSinger(int s) { return s < 0 || s >= born.size(); }
  boolean noKnown(int k) { return k < -1 || k > book.size(); }
  boolean noYear(int y) { return y < 0 || y > 999; }

  int half(int beats, int heavy, int gap) {
    if (beats < 1 || beats > 8 || heavy < 0 || heavy >= 1 << beats || gap < -1 || gap > beats) return BAD;
    if (halves.size() == 40) return FULL;
    halves.add(new Half(beats(beats, heavy), gap));
    return halves.size() - 1;
  }

  int name(int name, int beats, int heavy) {
    if (noName(name)) return NONE;
    if (beats < 1 || beats > 4 || heavy < 0 || heavy >= 1 << beats) return BAD;
    return names.set(name, beats(beats, heavy)).size();
  }

  int line(int first, int second, int slot, int hero, int slip) {
    if (noHalf(first) || noHalf(second) || slot < 0 || slot > 7 || noName(hero)) return NONE;
    if (slip != 0 && slip != 1) return BAD;
    if (lines.size() == 40) return FULL;
    Line line = new Line();
    line.first = first;
    line.second = second;
    line.slot = slot;
    line.hero = hero;
    line.slip = slip;
    lines.add(line);
    return lines.size() - 1;
  }

  int metre(int what, int n) {
    if (what < 0 || what > 2) return NONE;
    if (what < 2 && (n < 1 || n > 12)) return BAD;
    if (what == 2 && (n < 0 || n >= 1 << 24)) return BAD;
    int before = metre[what];
    metre[what] = n;
    return before;
  }

  List<Boolean> sungHalf(int half, int hero) {
    List<Boolean> list = new ArrayList<>(halves.get(half).beats());
    int gap = halves.get(half).gap();
    if (gap >= 0) list.addAll(gap, names.get(hero));
    return list;
  }

  boolean scans(int first, int second, int hero) {
    List<Boolean> one = sungHalf(first, hero), two = sungHalf(second, hero);
    if (one.size() != metre[0] || two.size() != metre[1]) return false;
    List<Boolean> whole = new ArrayList<>(one);
    whole.addAll(two);
    for (int b = 0; b < 24; b++) {
      if ((metre[2] >> b & 1) == 1 && (b >= whole.size() || !whole.get(b))) return false;
    }
    return true;
  }

  boolean scans(Line l) { return scans(l.first, l.second, l.hero); }

  int told(int line, int what) {
    if (noLine(line) || what < 0 || what > 7) return NONE;
    Line l = lines.get(line);
    List<Boolean> whole = sungHalf(l.first, l.hero);
    whole.addAll(sungHalf(l.second, l.hero));
    int heavy = 0;
    for (int b = 0; b < whole.size(); b++) if (whole.get(b)) heavy += 1 << b;
    int[] all = {l.first, l.second, l.slot, l.hero, l.slip, scans(l) ? 1 : 0, whole.size(), heavy};
    return all[what];
  }

  int swap(int hero, int other) {
    if (noName(hero) || noName(other)) return NONE;
    if (hero == other) return BAD;
    broken = new ArrayList<>();
    int mended = 0;
    for (int n = 0; n < lines.size(); n++) {
      Line l = lines.get(n);
      if (l.hero != hero) continue;
      l.hero = other;
      if (scans(l)) continue;
      int bestChanges = 3, first = -1, second = -1;
      for (int f = 0; f < halves.size(); f++) {
        for (int s = 0; s < halves.size(); s++) {
          int changes = (f != l.first ? 1 : 0) + (s != l.second ? 1 : 0);
          if (changes < bestChanges && scans(f, s, other)) {
            bestChanges = changes;
            first = f;
            second = s;
          }
        }
      }
      if (first < 0) {
        broken.add(n);
      } else {
        l.first = first;
        l.second = second;
        mended++;
      }
    }
    return mended;
  }

  int broken(int i) { return listed(broken, i); }

  static int listed(List<Integer> list, int i) {
    if (i == -1) return list.size();
    return i >= 0 && i < list.size() ? list.get(i) : NONE;
  }

  int feed(long w, int n) {
    if (n < 1 || n > 8) return BAD;
    if (tape.size() + n > 60) return FULL;
    for (int k = n - 1; k >= 0; k--) tape.add((int) (w >> 8 * k) & 255);
    return tape.size();
  }

  int at;

  int sign() { return at < tape.size() ? tape.get(at) : -1; }

  void expect(int sign) {
    if (sign() != sign) throw new Fault(at);
    at++;
  }

  static boolean isIn(int sign, char least, char most) { return sign >= least && sign <= most; }

  List<Item> items() {
    List<Item> list = new ArrayList<>();
    do list.add(item()); while (isIn(sign(), 'a', 'h') || isIn(sign(), 'A', 'H')
        || sign() == '[' || sign() == '{' || sign() == '(');
    return list;
  }

  Item item() {
    int sign = sign();
    if (isIn(sign, 'a', 'h')) { at++; return new Item('s', sign - 'a', null, null); }
    if (isIn(sign, 'A', 'H')) { at++; return new Item('S', sign - 'A', null, null); }
    if (sign != '[' && sign != '{' && sign != '(') throw new Fault(at);
    at++;
    List<Item> one = items(), two = null;
    if (sign == '(') { expect('|'); two = items(); }
    expect(sign == '[' ? ']' : sign == '{' ? '}' : ')');
    return new Item((char) sign, 0, one, two);
  }

  static boolean standsIn(int scene, List<Item> list) {
    if (list == null) return false;
    for (Item i : list) {
      if (i.kind() == 'S' && i.n() == scene) return true;
      if (standsIn(scene, i.one()) || standsIn(scene, i.two())) return true;
    }
    return false;
  }

  int scene() {
    try {
      at = 0;
      if (!isIn(sign(), 'A', 'H')) return -1000;
      int scene = sign() - 'A';
      at = 1;
      expect('=');
      List<Item> text = items();
      if (at != tape.size()) return -1000 - at;
      for (int p = 2; p < tape.size(); p++) {
        int other = tape.get(p) - 'A';
        if (other >= 0 && other < 8 && (other == scene || noScene(other))) return -2000 - p;
      }
      for (int s : scenes.keySet()) if (s != scene && standsIn(scene, scenes.get(s))) return -3000;
      scenes.put(scene, text);
      return scene;
    } catch (Fault f) {
      return -1000 - f.place;
    } finally {
      tape = new ArrayList<>();
    }
  }

  int hall(int n) {
    if (n < 0 || n > 3) return BAD;
    int before = hall;
    hall = n;
    return before;
  }

  BigInteger number;
  int gone;

  int choice(int ways) {
    if (ways == 0) throw new CannotBe();
    BigInteger[] both = number.divideAndRemainder(BigInteger.valueOf(ways));
    number = both[0];
    return both[1].intValue();
  }

  void sing(List<Item> list, TreeSet<Integer> stock, List<Integer> out) {
    for (Item i : list) {
      gone++;
      if (gone > 2000) throw new CannotBe();
      if (i.kind() == 's') {
        List<Integer> ways = ofSlot(stock, i.n());
        out.add(ways.get(choice(ways.size())));
        if (out.size() > 40) throw new CannotBe();
      } else if (i.kind() == 'S') {
        sing(scenes.get(i.n()), stock, out);
      } else if (i.kind() == '[') {
        if (choice(2) == 1) sing(i.one(), stock, out);
      } else if (i.kind() == '{') {
        int times = choice(hall + 1);
        for (int t = 0; t < times; t++) sing(i.one(), stock, out);
      } else {
        sing(choice(2) == 0 ? i.one() : i.two(), stock, out);
      }
    }
  }

  List<Integer> ofSlot(TreeSet<Integer> stock, int slot) {
    List<Integer> list = new ArrayList<>();
    for (int l : stock) if (lines.get(l).slot == slot) list.add(l);
    return list;
  }

  int sing(int scene, int singer, int year, long byNumber) {
    if (noScene(scene) || noSinger(singer)) return NONE;
    if (noYear(year) || byNumber < 0) return BAD;
    number = BigInteger.valueOf(byNumber);
    gone = 0;
    List<Integer> out = new ArrayList<>();
    try {
      sing(scenes.get(scene), stockSet(singer, year, -1), out);
    } catch (CannotBe e) {
      return STATE;
    }
    sung = out;
    return sung.size();
  }

  int sung(int i) { return i == -1 ? NONE : listed(sung, i); }

  int singer(int year) {
    if (noYear(year)) return BAD;
    if (born.size() == 8) return FULL;
    born.add(year);
    village.add(0);
    return born.size() - 1;
  }

  int village(int singer, int n) {
    if (noSinger(singer)) return NONE;
    if (n < 0 || n > 9) return BAD;
    return village.set(singer, n);
  }

  int learn(int singer, int line, int from, int year) {
    if (noSinger(singer) || noLine(line) || from != -1 && noSinger(from)) return NONE;
    if (noYear(year) || from == singer) return BAD;
    if (book.size() == 200) return FULL;
    book.add(new Entry(singer, line, year, true));
    return book.size();
  }

  int forget(int singer, int line, int year) {
    if (noSinger(singer) || noLine(line)) return NONE;
    if (noYear(year)) return BAD;
    if (book.size() == 200) return FULL;
    book.add(new Entry(singer, line, year, false));
    return book.size();
  }

  boolean holds(int singer, int line, int year, int known) {
    Entry last = null;
    for (Entry e : book.subList(0, known == -1 ? book.size() : known)) {
      if (e.singer() != singer || e.line() != line || e.year() > year) continue;
      if (last == null || e.year() >= last.year()) last = e;
    }
    return last != null && last.learnt();
  }

  TreeSet<Integer> stockSet(int singer, int year, int known) {
    TreeSet<Integer> set = new TreeSet<>();
    for (int l = 0; l < lines.size(); l++) if (holds(singer, l, year, known)) set.add(l);
    return set;
  }

  int has(int singer, int line, int year, int known) {
    if (noSinger(singer) || noLine(line) || noKnown(known)) return NONE;
    if (noYear(year)) return BAD;
    return holds(singer, line, year, known) ? 1 : 0;
  }

  int stock(int singer, int year, int known) {
    if (noSinger(singer) || noKnown(known)) return NONE;
    if (noYear(year)) return BAD;
    return stockSet(singer, year, known).size();
  }

  int changes(int a, int b, int year, int known) {
    int n = 0;
    for (int l = 0; l < lines.size(); l++) if (holds(a, l, year, known) != holds(b, l, year, known)) n++;
    return n;
  }

  int unlike(int a, int b, int year, int known) {
    if (noSinger(a) || noSinger(b) || noKnown(known)) return NONE;
    if (noYear(year)) return BAD;
    return changes(a, b, year, known);
  }

  int master(int singer, int year, int known) {
    if (noSinger(singer) || noKnown(known)) return NONE;
    if (noYear(year)) return BAD;
    List<Integer> elders = new ArrayList<>();
    for (int s = 0; s < born.size(); s++) if (born.get(s) < born.get(singer)) elders.add(s);
    elders.sort((a, b) -> {
      int c = changes(a, singer, year, known) - changes(b, singer, year, known);
      if (c == 0) c = born.get(b) - born.get(a);
      return c == 0 ? a - b : c;
    });
    return elders.isEmpty() ? -5 : elders.get(0);
  }

  int lineage(int year, int known) {
    if (noKnown(known)) return NONE;
    if (noYear(year)) return BAD;
    int sum = 0;
    for (int s = 0; s < born.size(); s++) {
      int m = master(s, year, known);
      if (m >= 0) sum += changes(s, m, year, known);
    }
    return sum;
  }

  int loan(int a, int b, int year, int known) {
    if (noSinger(a) || noSinger(b) || noKnown(known)) return NONE;
    if (noYear(year) || a == b) return BAD;
    int ma = master(a, year, known), mb = master(b, year, known), n = 0;
    for (int l = 0; l < lines.size(); l++) {
      boolean both = holds(a, l, year, known) && holds(b, l, year, known);
      boolean above = ma >= 0 && holds(ma, l, year, known) || mb >= 0 && holds(mb, l, year, known);
      if (lines.get(l).slip == 1 && both && !above) n++;
    }
    return n;
  }

  int core(int year, int known, int i) {
    if (noKnown(known) || i < -1 || i >= lines.size()) return NONE;
    if (noYear(year)) return BAD;
    List<Integer> all = new ArrayList<>();
    for (int l = 0; l < lines.size() && !born.isEmpty(); l++) {
      boolean every = true;
      for (int s = 0; s < born.size(); s++) every &= holds(s, l, year, known);
      if (every) all.add(l);
    }
    return listed(all, i);
  }

  int whose(int line, int year, int known) {
    if (noLine(line) || noKnown(known)) return NONE;
    if (noYear(year)) return BAD;
    int best = -5, most = 0;
    for (int v = 0; v < 10; v++) {
      int n = 0;
      for (int s = 0; s < born.size(); s++) if (village.get(s) == v && holds(s, line, year, known)) n++;
      if (n > most) { most = n; best = v; }
    }
    return best;
  }

  int put(int i, int line) {
    if (line != 40 && noLine(line)) return NONE;
    if (i != 0 && i != row.size()) return BAD;
    if (i == 24) return FULL;
    if (i == 0) row = new ArrayList<>();
    row.add(line);
    return row.size();
  }

  /** All rows up to a length that texts make, each with the number of ways to choose. */
  Map<List<Integer>, BigInteger> rows(List<Item> list, TreeSet<Integer> stock, int length) {
    Map<List<Integer>, BigInteger> all = new HashMap<>();
    all.put(List.of(), BigInteger.ONE);
    for (Item i : list) all = joined(all, rowsOf(i, stock, length), length);
    return all;
  }

  Map<List<Integer>, BigInteger> rowsOf(Item i, TreeSet<Integer> stock, int length) {
    Map<List<Integer>, BigInteger> all = new HashMap<>();
    Map<List<Integer>, BigInteger> empty = new HashMap<>();
    empty.put(List.of(), BigInteger.ONE);
    if (i.kind() == 's') {
      for (int l : ofSlot(stock, i.n())) all.put(List.of(l), BigInteger.ONE);
    } else if (i.kind() == 'S') {
      all = rows(scenes.get(i.n()), stock, length);
    } else if (i.kind() == '[') {
      all = united(empty, rows(i.one(), stock, length));
    } else if (i.kind() == '(') {
      all = united(rows(i.one(), stock, length), rows(i.two(), stock, length));
    } else {
      Map<List<Integer>, BigInteger> times = empty, one = rows(i.one(), stock, length);
      all = empty;
      for (int t = 1; t <= hall; t++) {
        times = joined(times, one, length);
        all = united(all, times);
      }
    }
    return all;
  }

  static Map<List<Integer>, BigInteger> united(Map<List<Integer>, BigInteger> a, Map<List<Integer>, BigInteger> b) {
    Map<List<Integer>, BigInteger> all = new HashMap<>(a);
    b.forEach((row, n) -> all.merge(row, n, BigInteger::add));
    return all;
  }

  static Map<List<Integer>, BigInteger> joined(
      Map<List<Integer>, BigInteger> a, Map<List<Integer>, BigInteger> b, int length) {
    Map<List<Integer>, BigInteger> all = new HashMap<>();
    a.forEach((one, n) -> b.forEach((two, m) -> {
      if (one.size() + two.size() <= length) {
        List<Integer> both = new ArrayList<>(one);
        both.addAll(two);
        all.merge(both, n.multiply(m), BigInteger::add);
      }
    }));
    return all;
  }

  static boolean matches(List<Integer> made, List<Integer> told) {
    if (made.size() != told.size()) return false;
    for (int k = 0; k < told.size(); k++) {
      if (told.get(k) != 40 && !told.get(k).equals(made.get(k))) return false;
    }
    return true;
  }

  Map<List<Integer>, BigInteger> readBack(int scene, TreeSet<Integer> stock, List<Integer> told) {
    Map<List<Integer>, BigInteger> all = rows(scenes.get(scene), stock, told.size());
    all.keySet().removeIf(made -> !matches(made, told));
    return all;
  }

  /** For rows that are too long to write all out: where texts that begin at a place can end, in how many ways. */
  Map<Integer, BigInteger> ends(List<Item> list, TreeSet<Integer> stock, List<Integer> told, int from) {
    Map<Integer, BigInteger> all = new HashMap<>();
    all.put(from, BigInteger.ONE);
    for (Item i : list) all = further(all, i, stock, told);
    return all;
  }

  Map<Integer, BigInteger> further(Map<Integer, BigInteger> here, Item i, TreeSet<Integer> stock, List<Integer> told) {
    Map<Integer, BigInteger> next = new HashMap<>();
    here.forEach((from, n) -> endsOf(i, stock, told, from).forEach(
        (end, m) -> next.merge(end, n.multiply(m), BigInteger::add)));
    return next;
  }

  Map<Integer, BigInteger> endsOf(Item i, TreeSet<Integer> stock, List<Integer> told, int from) {
    Map<Integer, BigInteger> all = new HashMap<>();
    if (i.kind() == 's') {
      int ways = 0;
      for (int l : ofSlot(stock, i.n())) {
        if (from < told.size() && (told.get(from) == 40 || told.get(from) == l)) ways++;
      }
      if (ways > 0) all.put(from + 1, BigInteger.valueOf(ways));
      return all;
    }
    if (i.kind() == 'S') return ends(scenes.get(i.n()), stock, told, from);
    if (i.kind() != '(') all.put(from, BigInteger.ONE);
    Map<Integer, BigInteger> times = ends(i.one(), stock, told, from);
    int most = i.kind() == '{' ? hall : 1;
    for (int t = 1; t <= most; t++) {
      times.forEach((end, n) -> all.merge(end, n, BigInteger::add));
      if (t == most) break;
      Map<Integer, BigInteger> more = new HashMap<>();
      times.forEach((at, n) -> ends(i.one(), stock, told, at).forEach(
          (end, m) -> more.merge(end, n.multiply(m), BigInteger::add)));
      times = more;
    }
    if (i.kind() == '(') ends(i.two(), stock, told, from).forEach((end, n) -> all.merge(end, n, BigInteger::add));
    return all;
  }

  static final int SHORT = 4;

  BigInteger ways(int scene, TreeSet<Integer> stock, List<Integer> told) {
    if (told.size() > SHORT) {
      return ends(scenes.get(scene), stock, told, 0).getOrDefault(told.size(), BigInteger.ZERO);
    }
    BigInteger sum = BigInteger.ZERO;
    for (BigInteger n : readBack(scene, stock, told).values()) sum = sum.add(n);
    return sum;
  }

  int runs(int scene, int singer, int year, int known) {
    if (noScene(scene) || noSinger(singer) || noKnown(known)) return NONE;
    if (noYear(year)) return BAD;
    if (row.isEmpty()) return STATE;
    return ways(scene, stockSet(singer, year, known), row).min(BigInteger.valueOf(1000000)).intValue();
  }

  int forged(int singer, int year, int known) {
    if (noSinger(singer) || noKnown(known)) return NONE;
    if (noYear(year)) return BAD;
    if (row.isEmpty()) return STATE;
    Set<Integer> near = new HashSet<>(stockSet(singer, year, known));
    for (int s = 0; s < born.size(); s++) {
      if (s == master(singer, year, known) || master(s, year, known) == singer) near.addAll(stockSet(s, year, known));
    }
    near.add(40);
    for (int k = 0; k < row.size(); k++) if (!near.contains(row.get(k))) return k;
    return -5;
  }

  int record(int singer, int scene, int year) {
    if (noSinger(singer) || noScene(scene)) return NONE;
    if (noYear(year)) return BAD;
    if (row.isEmpty()) return STATE;
    if (recordings.size() == 12) return FULL;
    recordings.add(new Recording(singer, scene, year, new ArrayList<>(row)));
    return recordings.size() - 1;
  }

  int heard(int recording, int known, int what) {
    if (recording < 0 || recording >= recordings.size() || noKnown(known) || what < 0 || what > 3) return NONE;
    Recording r = recordings.get(recording);
    TreeSet<Integer> stock = stockSet(r.singer(), r.year(), known);
    if (what == 0) return ways(r.scene(), stock, r.row()).signum();
    int lost = 0, lacks = 0;
    for (int l : r.row()) {
      if (l == 40) lost++;
      else if (!stock.contains(l)) lacks++;
    }
    return what == 1 ? lacks : what == 2 ? lost : r.row().size();
  }

  int filled(int recording, int known, int place) {
    if (recording < 0 || recording >= recordings.size() || noKnown(known)) return NONE;
    Recording r = recordings.get(recording);
    if (place < 0 || place >= r.row().size() || r.row().get(place) != 40) return NONE;
    Set<Integer> there = new HashSet<>();
    TreeSet<Integer> stock = stockSet(r.singer(), r.year(), known);
    if (r.row().size() <= SHORT) {
      for (List<Integer> made : readBack(r.scene(), stock, r.row()).keySet()) there.add(made.get(place));
    } else {
      for (int l : stock) {
        List<Integer> with = new ArrayList<>(r.row());
        with.set(place, l);
        if (ways(r.scene(), stock, with).signum() > 0) there.add(l);
      }
    }
    return there.size() == 1 ? there.iterator().next() : STATE;
  }

  int count(int what) {
    if (what < 0 || what > 8) return NONE;
    int scanning = 0;
    for (Line l : lines) if (scans(l)) scanning++;
    int[] all = {halves.size(), lines.size(), scenes.size(), born.size(), book.size(), recordings.size(),
        tape.size(), hall, scanning};
    return all[what];
  }
}
