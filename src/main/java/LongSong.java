import java.util.Arrays;

/**
 * Songs of heroes: half lines that scan by a metre, scenes that are sung by choices and read back,
 * singers who hand lines on, and recordings with gaps.
 */
public final class LongSong {
    public static final int NONE = -1, BAD = -2, STATE = -3, FULL = -4;

    private static final int NOBODY = -5;
    private static final int HALVES = 40, HALF_BEATS = 8;
    private static final int NAMES = 10, NAME_BEATS = 4;
    private static final int LINES = 40, SLOTS = 8;
    private static final int METRE_BEATS = 12;
    private static final int TAPE = 60, SCENES = 8, HALL = 3;
    private static final int SUNG_LINES = 40, SUNG_ITEMS = 2000;
    private static final int SINGERS = 8, ENTRIES = 200, VILLAGES = 10, LAST_YEAR = 999;
    private static final int ROW = 24, LOST = 40, RECORDINGS = 12;
    private static final int MANY = 1000000;

    private final Verse verse;
    private final Scenes scenes;
    private final Book book;
    private final Singing singing;
    private final Reading reading;
    private final Shelf shelf;
    private final int[] gathered;
    private int gatheredSize;

    public LongSong() {
        verse = new Verse();
        scenes = new Scenes();
        book = new Book();
        singing = new Singing(verse, scenes);
        reading = new Reading(verse, scenes);
        shelf = new Shelf();
        gathered = new int[ROW];
        gatheredSize = 0;
    }

    // ---- halves, names, lines

    public int half(int beats, int heavy, int gap) {
        if (!inside(beats, 1, HALF_BEATS) || !areBits(heavy, beats) || !inside(gap, -1, beats)) return BAD;
        if (verse.halves >= HALVES) return FULL;
        return verse.addHalf(beats, heavy, gap);
    }

    public int name(int name, int beats, int heavy) {
        if (!inside(name, 0, NAMES - 1)) return NONE;
        if (!inside(beats, 1, NAME_BEATS) || !areBits(heavy, beats)) return BAD;
        int before = verse.nameBeats[name];
        verse.nameBeats[name] = beats;
        verse.nameHeavy[name] = heavy;
        return before;
    }

    public int line(int first, int second, int slot, int hero, int slip) {
        if (!verse.isHalf(first) || !verse.isHalf(second)) return NONE;
        if (!inside(slot, 0, SLOTS - 1) || !inside(hero, 0, NAMES - 1)) return NONE;
        if (!inside(slip, 0, 1)) return BAD;
        if (verse.lines >= LINES) return FULL;
        return verse.addLine(first, second, slot, hero, slip);
    }

    public int metre(int what, int n) {
        if (!inside(what, 0, 2)) return NONE;
        // The longest whole has 24 beats; a bit beyond the metre of now may be meant for a longer one.
        if (what == 2 ? !areBits(n, 2 * METRE_BEATS) : !inside(n, 1, METRE_BEATS)) return BAD;
        int before = verse.measure[what];
        verse.measure[what] = n;
        return before;
    }

    public int told(int line, int what) {
        if (!verse.isLine(line)) return NONE;
        switch (what) {
            case 0: return verse.lineFirst[line];
            case 1: return verse.lineSecond[line];
            case 2: return verse.lineSlot[line];
            case 3: return verse.lineHero[line];
            case 4: return bit(verse.slips, line);
            case 5: return verse.scans(line) ? 1 : 0;
            case 6: return verse.lineBeats(line);
            case 7: return verse.lineHeavy(line);
            default: return NONE;
        }
    }

    public int swap(int hero, int other) {
        if (!inside(hero, 0, NAMES - 1) || !inside(other, 0, NAMES - 1)) return NONE;
        if (hero == other) return BAD;
        return verse.putInPlace(hero, other);
    }

    public int broken(int i) {
        return listed(verse.brokenLines, verse.brokenCount, i);
    }

    // ---- scenes

    public int feed(long w, int n) {
        if (!inside(n, 1, 8)) return BAD;
        if (scenes.tapeSize > TAPE - n) return FULL;
        return scenes.append(w, n);
    }

    public int scene() {
        return scenes.tellTape();
    }

    public int hall(int n) {
        if (!inside(n, 0, HALL)) return BAD;
        int before = scenes.fullness;
        scenes.fullness = n;
        return before;
    }

    public int sing(int scene, int singer, int year, long number) {
        if (!scenes.isTold(scene) || !book.isSinger(singer)) return NONE;
        if (!isYear(year) || number < 0) return BAD;
        boolean ended = singing.perform(scene, book.stockOf(singer, year, -1), number);
        return ended ? singing.kept : STATE;
    }

    public int sung(int i) {
        return inside(i, 0, singing.kept - 1) ? singing.song[i] : NONE;
    }

    // ---- singers

    public int singer(int born) {
        if (!isYear(born)) return BAD;
        if (book.singers >= SINGERS) return FULL;
        return book.addSinger(born);
    }

    public int village(int singer, int village) {
        if (!book.isSinger(singer)) return NONE;
        if (!inside(village, 0, VILLAGES - 1)) return BAD;
        int before = book.home[singer];
        book.home[singer] = village;
        return before;
    }

    public int learn(int singer, int line, int from, int year) {
        if (!book.isSinger(singer) || !verse.isLine(line)) return NONE;
        if (from != -1 && !book.isSinger(from)) return NONE;
        if (!isYear(year) || from == singer) return BAD;
        if (book.entries >= ENTRIES) return FULL;
        return book.enter(singer, line, year, true);
    }

    public int forget(int singer, int line, int year) {
        if (!book.isSinger(singer) || !verse.isLine(line)) return NONE;
        if (!isYear(year)) return BAD;
        if (book.entries >= ENTRIES) return FULL;
        return book.enter(singer, line, year, false);
    }

    public int has(int singer, int line, int year, int known) {
        if (!book.isSinger(singer) || !verse.isLine(line) || !book.isKnown(known)) return NONE;
        if (!isYear(year)) return BAD;
        return bit(book.stockOf(singer, year, known), line);
    }

    public int stock(int singer, int year, int known) {
        if (!book.isSinger(singer) || !book.isKnown(known)) return NONE;
        if (!isYear(year)) return BAD;
        return Long.bitCount(book.stockOf(singer, year, known));
    }

    public int unlike(int a, int b, int year, int known) {
        if (!book.isSinger(a) || !book.isSinger(b) || !book.isKnown(known)) return NONE;
        if (!isYear(year)) return BAD;
        book.openAt(year, known);
        return book.changes(a, b);
    }

    public int master(int singer, int year, int known) {
        if (!book.isSinger(singer) || !book.isKnown(known)) return NONE;
        if (!isYear(year)) return BAD;
        book.openAt(year, known);
        return book.masterOf(singer);
    }

    public int lineage(int year, int known) {
        if (!book.isKnown(known)) return NONE;
        if (!isYear(year)) return BAD;
        book.openAt(year, known);
        int sum = 0;
        for (int s = 0; s < book.singers; s++) {
            int master = book.masterOf(s);
            if (master != NOBODY) sum += book.changes(s, master);
        }
        return sum;
    }

    public int loan(int a, int b, int year, int known) {
        if (!book.isSinger(a) || !book.isSinger(b) || !book.isKnown(known)) return NONE;
        if (!isYear(year) || a == b) return BAD;
        book.openAt(year, known);
        long both = book.stocks[a] & book.stocks[b] & verse.slips;
        return Long.bitCount(both & ~book.masterStock(a) & ~book.masterStock(b));
    }

    public int core(int year, int known, int i) {
        // No year can bring forth a line that there is not, so such an i is NONE ahead of a BAD year.
        if (!book.isKnown(known) || !inside(i, -1, verse.lines - 1)) return NONE;
        if (!isYear(year)) return BAD;
        book.openAt(year, known);
        long common = book.commonStock();
        return i == -1 ? Long.bitCount(common) : pick(common, i);
    }

    public int whose(int line, int year, int known) {
        if (!verse.isLine(line) || !book.isKnown(known)) return NONE;
        if (!isYear(year)) return BAD;
        book.openAt(year, known);
        return book.villageWithMost(line);
    }

    // ---- recordings

    public int put(int i, int line) {
        if (line != LOST && !verse.isLine(line)) return NONE;
        if (i != 0 && i != gatheredSize) return BAD;
        if (i >= ROW) return FULL;
        gathered[i] = line;
        gatheredSize = i + 1;
        return gatheredSize;
    }

    public int runs(int scene, int singer, int year, int known) {
        if (!scenes.isTold(scene) || !book.isSinger(singer) || !book.isKnown(known)) return NONE;
        if (!isYear(year)) return BAD;
        if (gatheredSize == 0) return STATE;
        reading.take(gathered, 0, gatheredSize, book.stockOf(singer, year, known));
        return reading.ways(scene);
    }

    public int forged(int singer, int year, int known) {
        if (!book.isSinger(singer) || !book.isKnown(known)) return NONE;
        if (!isYear(year)) return BAD;
        if (gatheredSize == 0) return STATE;
        book.openAt(year, known);
        long near = book.stockAround(singer);
        for (int i = 0; i < gatheredSize; i++) {
            if (gathered[i] != LOST && bit(near, gathered[i]) == 0) return i;
        }
        return NOBODY;
    }

    public int record(int singer, int scene, int year) {
        if (!book.isSinger(singer) || !scenes.isTold(scene)) return NONE;
        if (!isYear(year)) return BAD;
        if (gatheredSize == 0) return STATE;
        if (shelf.recordings >= RECORDINGS) return FULL;
        return shelf.addRecording(singer, scene, year, gathered, gatheredSize);
    }

    public int heard(int recording, int known, int what) {
        if (!shelf.isRecording(recording) || !book.isKnown(known)) return NONE;
        switch (what) {
            case 0:
                takeRecording(recording, known);
                return reading.ways(shelf.scene[recording]) > 0 ? 1 : 0;
            case 1: return shelf.lacking(recording, stockBehind(recording, known));
            case 2: return shelf.lostPlaces(recording);
            case 3: return shelf.size[recording];
            default: return NONE;
        }
    }

    public int filled(int recording, int known, int place) {
        if (!shelf.isRecording(recording) || !book.isKnown(known)) return NONE;
        if (!shelf.isLost(recording, place)) return NONE;
        takeRecording(recording, known);
        int line = reading.onlyLine(shelf.scene[recording], place);
        return line == NONE ? STATE : line;
    }

    public int count(int what) {
        switch (what) {
            case 0: return verse.halves;
            case 1: return verse.lines;
            case 2: return scenes.told;
            case 3: return book.singers;
            case 4: return book.entries;
            case 5: return shelf.recordings;
            case 6: return scenes.tapeSize;
            case 7: return scenes.fullness;
            case 8: return verse.scanning();
            default: return NONE;
        }
    }

    private long stockBehind(int recording, int known) {
        return book.stockOf(shelf.singer[recording], shelf.year[recording], known);
    }

    private void takeRecording(int recording, int known) {
        reading.take(shelf.rows, recording * ROW, shelf.size[recording], stockBehind(recording, known));
    }

    // ---- small things that several parts use

    private static boolean inside(int n, int least, int most) {
        return n >= least && n <= most;
    }

    private static boolean areBits(int n, int many) {
        return n >= 0 && n < 1 << many;
    }

    private static boolean isYear(int year) {
        return inside(year, 0, LAST_YEAR);
    }

    private static int bit(long set, int at) {
        return (int) ((set >>> at) & 1L);
    }

    /** How many a list has (i -1), or its i-th. */
    private static int listed(int[] list, int many, int i) {
        if (i == -1) return many;
        return i >= 0 && i < many && i < list.length ? list[i] : NONE;
    }

    /** The line that has n lesser ones in a set of lines. */
    private static int pick(long set, int n) {
        int left = n;
        for (int line = 0; line < LINES; line++) {
            if (bit(set, line) == 1) {
                if (left == 0) return line;
                left--;
            }
        }
        return NONE;
    }

    private static boolean isSlot(int sign) {
        return sign >= 'a' && sign <= 'h';
    }

    private static boolean isScene(int sign) {
        return sign >= 'A' && sign <= 'H';
    }

    /** Halves, names and lines, and the metre that lines scan by. */
    private static final class Verse {
        private final int[] halfBeats = new int[HALVES];
        private final int[] halfHeavy = new int[HALVES];
        private final int[] halfGap = new int[HALVES];
        private int halves = 0;
        private final int[] nameBeats = new int[NAMES];
        private final int[] nameHeavy = new int[NAMES];
        private final int[] lineFirst = new int[LINES];
        private final int[] lineSecond = new int[LINES];
        private final int[] lineSlot = new int[LINES];
        private final int[] lineHero = new int[LINES];
        private final long[] bySlot = new long[SLOTS];
        private long slips = 0;
        private int lines = 0;
        private final int[] measure = new int[3];
        private final int[] brokenLines = new int[LINES];
        private int brokenCount = 0;

        private Verse() {
            Arrays.fill(nameBeats, 1);
            measure[0] = 4;
            measure[1] = 6;
        }

        private boolean isHalf(int half) {
            return half >= 0 && half < halves;
        }

        private boolean isLine(int line) {
            return line >= 0 && line < lines;
        }

        private int addHalf(int beats, int heavy, int gap) {
            halfBeats[halves] = beats;
            halfHeavy[halves] = heavy;
            halfGap[halves] = gap;
            halves++;
            return halves - 1;
        }

        private int addLine(int first, int second, int slot, int hero, int slip) {
            lineFirst[lines] = first;
            lineSecond[lines] = second;
            lineSlot[lines] = slot;
            lineHero[lines] = hero;
            bySlot[slot] |= 1L << lines;
            slips |= (long) slip << lines;
            lines++;
            return lines - 1;
        }

        private int sungBeats(int half, int hero) {
            return halfGap[half] < 0 ? halfBeats[half] : halfBeats[half] + nameBeats[hero];
        }

        private int sungHeavy(int half, int hero) {
            int gap = halfGap[half];
            int heavy = halfHeavy[half];
            if (gap < 0) return heavy;
            int ahead = heavy & ((1 << gap) - 1);
            int behind = heavy >> gap;
            return ahead | (nameHeavy[hero] << gap) | (behind << (gap + nameBeats[hero]));
        }

        private int lineBeats(int line) {
            int hero = lineHero[line];
            return sungBeats(lineFirst[line], hero) + sungBeats(lineSecond[line], hero);
        }

        private int lineHeavy(int line) {
            int hero = lineHero[line];
            int firstBeats = sungBeats(lineFirst[line], hero);
            return sungHeavy(lineFirst[line], hero) | (sungHeavy(lineSecond[line], hero) << firstBeats);
        }

        private boolean fitsFirst(int half, int hero) {
            int must = measure[2] & ((1 << measure[0]) - 1);
            return sungBeats(half, hero) == measure[0] && (must & ~sungHeavy(half, hero)) == 0;
        }

        private boolean fitsSecond(int half, int hero) {
            int must = measure[2] >> measure[0];
            return sungBeats(half, hero) == measure[1] && (must & ~sungHeavy(half, hero)) == 0;
        }

        // A line scans just if each of its halves fits, so that halves can be looked at one by one.
        private boolean scans(int line) {
            int hero = lineHero[line];
            return fitsFirst(lineFirst[line], hero) && fitsSecond(lineSecond[line], hero);
        }

        private int scanning() {
            int many = 0;
            for (int line = 0; line < lines; line++) {
                if (scans(line)) many++;
            }
            return many;
        }

        private int leastFirst(int hero) {
            for (int half = 0; half < halves; half++) {
                if (fitsFirst(half, hero)) return half;
            }
            return NONE;
        }

        private int leastSecond(int hero) {
            for (int half = 0; half < halves; half++) {
                if (fitsSecond(half, hero)) return half;
            }
            return NONE;
        }

        /** Puts another name in a hero's place in all its lines: how many were mended. */
        private int putInPlace(int hero, int other) {
            int first = leastFirst(other);
            int second = leastSecond(other);
            int mended = 0;
            brokenCount = 0;
            for (int line = 0; line < lines; line++) {
                if (lineHero[line] == hero) {
                    lineHero[line] = other;
                    if (!scans(line)) {
                        if (mend(line, first, second)) mended++;
                        else noteBroken(line);
                    }
                }
            }
            return mended;
        }

        /**
         * Gives a line that does not scan other halves. A half that fits stays and one that does not
         * fit must go, so the fewest changes leave no choice but the least half that fits.
         */
        private boolean mend(int line, int first, int second) {
            if (first == NONE || second == NONE) return false;
            int hero = lineHero[line];
            if (!fitsFirst(lineFirst[line], hero)) lineFirst[line] = first;
            if (!fitsSecond(lineSecond[line], hero)) lineSecond[line] = second;
            return true;
        }

        private void noteBroken(int line) {
            if (brokenCount < LINES) {
                brokenLines[brokenCount] = line;
                brokenCount++;
            }
        }
    }

    /** The tape, and the scenes' texts that were read from it. */
    private static final class Scenes {
        private final int[] tape = new int[TAPE];
        private int tapeSize = 0;
        // Where each bracket of the tape leads: to its end, of ( to its bar, of the bar to its end, of } back.
        private final int[] mate = new int[TAPE];
        private final int[] open = new int[TAPE];
        private int depth = 0;
        private boolean some = false;
        private final int[] text = new int[SCENES * TAPE];
        private final int[] mates = new int[SCENES * TAPE];
        private final int[] size = new int[SCENES];
        private final int[] uses = new int[SCENES];
        // By the time of telling: a scene stands behind all those that its text names.
        private final int[] order = new int[SCENES];
        private int told = 0;
        private int fullness = 1;

        private boolean isTold(int scene) {
            return scene >= 0 && scene < SCENES && size[scene] > 0;
        }

        private int sign(int scene, int at) {
            return text[scene * TAPE + at];
        }

        private int mateOf(int scene, int at) {
            return mates[scene * TAPE + at];
        }

        private int append(long w, int n) {
            for (int k = n - 1; k >= 0; k--) {
                tape[tapeSize] = (int) ((w >>> (8 * k)) & 255L);
                tapeSize++;
            }
            return tapeSize;
        }

        /** The tape becomes a scene, or its fault is told; it is empty then. */
        private int tellTape() {
            int answer = readTape();
            tapeSize = 0;
            return answer;
        }

        private int readTape() {
            int place = misfit();
            if (place >= 0) return -1000 - place;
            int scene = tape[0] - 'A';
            place = untold(scene);
            if (place >= 0) return -2000 - place;
            if (standsInAnother(scene)) return -3000;
            keep(scene);
            return scene;
        }

        /** The place of the first byte with which no text can go on, or -1. */
        private int misfit() {
            depth = 0;
            some = false;
            for (int at = 0; at < tapeSize; at++) {
                if (!goesOn(at)) return at;
            }
            return some && depth == 0 ? -1 : tapeSize;
        }

        private boolean goesOn(int at) {
            int sign = tape[at];
            if (at == 0) return isScene(sign);
            if (at == 1) return sign == '=';
            if (isSlot(sign) || isScene(sign)) {
                some = true;
                return true;
            }
            if (sign == '[' || sign == '{' || sign == '(') return opens(at);
            return some && depth > 0 && closes(at, open[depth - 1]);
        }

        private boolean opens(int at) {
            if (depth >= TAPE) return false;
            open[depth] = at;
            depth++;
            some = false;
            return true;
        }

        private boolean closes(int at, int from) {
            if (tape[at] == '|' && tape[from] == '(') {
                mate[from] = at;
                open[depth - 1] = at;
                some = false;
                return true;
            }
            if (tape[at] != closer(tape[from])) return false;
            mate[from] = at;
            mate[at] = from;
            depth--;
            return true;
        }

        private static int closer(int sign) {
            switch (sign) {
                case '[': return ']';
                case '{': return '}';
                case '|': return ')';
                default: return NONE;
            }
        }

        /** The place of the first scene in the tape's text that is not told or is this one, or -1. */
        private int untold(int scene) {
            for (int at = 2; at < tapeSize; at++) {
                if (isScene(tape[at])) {
                    int other = tape[at] - 'A';
                    if (other == scene || !isTold(other)) return at;
                }
            }
            return -1;
        }

        private boolean standsInAnother(int scene) {
            for (int other = 0; other < SCENES; other++) {
                if (((uses[other] >> scene) & 1) == 1) return true;
            }
            return false;
        }

        private void keep(int scene) {
            System.arraycopy(tape, 0, text, scene * TAPE, tapeSize);
            System.arraycopy(mate, 0, mates, scene * TAPE, tapeSize);
            size[scene] = tapeSize;
            uses[scene] = 0;
            for (int at = 2; at < tapeSize; at++) {
                if (isScene(tape[at])) uses[scene] |= 1 << (tape[at] - 'A');
            }
            putLast(scene);
        }

        private void putLast(int scene) {
            int others = 0;
            for (int k = 0; k < told; k++) {
                if (order[k] != scene) {
                    order[others] = order[k];
                    others++;
                }
            }
            if (others < SCENES) {
                order[others] = scene;
                told = others + 1;
            }
        }

        /** As bits, a scene and all those that it leads to. */
        private int within(int scene) {
            int set = 1 << scene;
            for (int k = told - 1; k >= 0; k--) {
                if (((set >> order[k]) & 1) == 1) set |= uses[order[k]];
            }
            return set;
        }
    }

    /** A scene sung by a number. */
    private static final class Singing {
        // Each item gone through ends once, and each time round a bracket has an item: some 6000 at most.
        private static final int STEPS = 100000;
        // In each of 8 scenes at most 28 brackets stand open at once, and its caller waits.
        private static final int WAITING = 256;

        private final Verse verse;
        private final Scenes scenes;
        private final int[] song = new int[SUNG_LINES];
        private int kept = 0;
        private final int[] draft = new int[SUNG_LINES];
        private int drafted = 0;
        // Times that are left for each open {}, and the places where scenes that are within another go on.
        private final int[] waiting = new int[WAITING];
        private int waits = 0;
        private int here = 0;
        private int at = 0;
        private int items = 0;
        private long stock = 0;
        private long number = 0;

        private Singing(Verse verse, Scenes scenes) {
            this.verse = verse;
            this.scenes = scenes;
        }

        /** Whether it can be sung; only then the song of before gives way. */
        private boolean perform(int scene, long byStock, long byNumber) {
            stock = byStock;
            number = byNumber;
            drafted = 0;
            waits = 0;
            items = 0;
            enterScene(scene);
            for (int step = 0; step < STEPS; step++) {
                if (at >= scenes.size[here]) {
                    if (waits == 0) return keepSong();
                    goBack();
                } else if (!takeSign(scenes.sign(here, at))) {
                    return false;
                }
            }
            return false;
        }

        private boolean keepSong() {
            System.arraycopy(draft, 0, song, 0, drafted);
            kept = drafted;
            return true;
        }

        private void enterScene(int scene) {
            here = scene;
            at = 2;
        }

        private void goBack() {
            waits--;
            here = waiting[waits] / TAPE;
            at = waiting[waits] % TAPE + 1;
        }

        private boolean await(int what) {
            if (waits >= WAITING) return false;
            waiting[waits] = what;
            waits++;
            return true;
        }

        private boolean takeSign(int sign) {
            switch (sign) {
                case ']':
                case ')':
                    at++;
                    return true;
                case '|':
                    at = scenes.mateOf(here, at) + 1;
                    return true;
                case '}':
                    return again();
                default:
                    items++;
                    return items <= SUNG_ITEMS && takeItem(sign);
            }
        }

        private boolean takeItem(int sign) {
            if (isSlot(sign)) return singLine(sign - 'a');
            if (isScene(sign)) {
                if (!await(here * TAPE + at)) return false;
                enterScene(sign - 'A');
                return true;
            }
            int inside = at + 1;
            int beyond = scenes.mateOf(here, at) + 1;
            if (sign == '{') {
                int times = choose(scenes.fullness + 1);
                at = times == 0 ? beyond : inside;
                return times == 0 || await(times - 1);
            }
            // Of [] the choice 1 is what is inside, of () what is beyond the bar.
            boolean goesIn = choose(2) == (sign == '[' ? 1 : 0);
            at = goesIn ? inside : beyond;
            return true;
        }

        private boolean again() {
            if (waits == 0) return false;
            if (waiting[waits - 1] > 0) {
                waiting[waits - 1]--;
                at = scenes.mateOf(here, at) + 1;
            } else {
                waits--;
                at++;
            }
            return true;
        }

        private boolean singLine(int slot) {
            long lines = stock & verse.bySlot[slot];
            if (lines == 0 || drafted >= SUNG_LINES) return false;
            draft[drafted] = pick(lines, choose(Long.bitCount(lines)));
            drafted++;
            at++;
            return true;
        }

        private int choose(int ways) {
            if (ways < 1) return 0;
            int way = (int) (number % ways);
            number /= ways;
            return way;
        }
    }

    /**
     * A row read back. A table tells for each two places i, j in the row how many ways a piece of text
     * has to make what stands from i to j; one piece behind another is the product of their tables.
     */
    private static final class Reading {
        // Only places i <= j are kept: 25 of them at most, each with those behind it.
        private static final int CELLS = (ROW + 1) * (ROW + 2) / 2;
        // A table a scene; above those a pile: one, 28 for brackets that are open, one to work with.
        private static final int PILE = SCENES, TABLES = SCENES + 30;

        private final Verse verse;
        private final Scenes scenes;
        private final int[] cells = new int[TABLES * CELLS];
        private final int[] weights = new int[ROW * SLOTS];
        private long stock = 0;
        private int length = 0;
        private int top = PILE;

        private Reading(Verse verse, Scenes scenes) {
            this.verse = verse;
            this.scenes = scenes;
        }

        /** Takes a row that is to be read by a stock: in how many ways each slot makes each place. */
        private void take(int[] rows, int from, int many, long byStock) {
            stock = byStock;
            length = many;
            for (int place = 0; place < many; place++) {
                int line = rows[from + place];
                for (int slot = 0; slot < SLOTS; slot++) {
                    long lines = stock & verse.bySlot[slot];
                    weights[place * SLOTS + slot] = line == LOST ? Long.bitCount(lines) : bit(lines, line);
                }
            }
        }

        private void allowOnly(int place, int slot) {
            for (int other = 0; other < SLOTS; other++) {
                weights[place * SLOTS + other] = other == slot ? 1 : 0;
            }
        }

        /** How many runs of a scene make the row that was taken. */
        private int ways(int scene) {
            int needed = scenes.within(scene);
            for (int k = 0; k < scenes.told; k++) {
                if (((needed >> scenes.order[k]) & 1) == 1) fillTable(scenes.order[k]);
            }
            return cells[cell(scene, 0, length)];
        }

        /** The one line that a lost place has in all runs; NONE if there is no such line. */
        private int onlyLine(int scene, int place) {
            int found = NONE;
            for (int slot = 0; slot < SLOTS; slot++) {
                long lines = stock & verse.bySlot[slot];
                if (lines != 0) {
                    allowOnly(place, slot);
                    if (ways(scene) > 0) {
                        // Lines of one slot can always stand for one another in a lost place.
                        if (found != NONE || Long.bitCount(lines) > 1) return NONE;
                        found = pick(lines, 0);
                    }
                }
            }
            return found;
        }

        private void fillTable(int scene) {
            top = PILE;
            clear(top);
            addOne(top);
            for (int at = 2; at < scenes.size[scene]; at++) {
                readSign(scenes.sign(scene, at));
            }
            clear(scene);
            addTable(scene, PILE);
        }

        private void readSign(int sign) {
            if (isSlot(sign)) {
                followBySlot(sign - 'a');
            } else if (isScene(sign)) {
                multiply(top, sign - 'A');
            } else if (sign == ']') {
                addOne(top);
                close();
            } else if (sign == '}') {
                repeat();
                close();
            } else if (sign == ')') {
                addTable(top - 1, top);
                lower();
                close();
            } else {
                raise();
            }
        }

        private void raise() {
            if (top < TABLES - 2) top++;
            clear(top);
            addOne(top);
        }

        private void lower() {
            if (top > PILE) top--;
        }

        /** The table on top, which is a whole item's now, comes behind what is below it. */
        private void close() {
            int item = top;
            lower();
            multiply(top, item);
        }

        /** Makes of the table on top, T, all times round: 1 + T (1 + T (1 + ..)). */
        private void repeat() {
            int sum = top + 1;
            clear(sum);
            addOne(sum);
            for (int time = 0; time < scenes.fullness; time++) {
                multiply(sum, top);
                addOne(sum);
            }
            clear(top);
            addTable(top, sum);
        }

        private int cell(int table, int i, int j) {
            return table * CELLS + i * (2 * length + 3 - i) / 2 + j - i;
        }

        private int cellsInUse() {
            return (length + 1) * (length + 2) / 2;
        }

        private void clear(int table) {
            int many = cellsInUse();
            for (int c = 0; c < many; c++) cells[table * CELLS + c] = 0;
        }

        private void addOne(int table) {
            for (int i = 0; i <= length; i++) {
                int c = cell(table, i, i);
                cells[c] = Math.min(cells[c] + 1, MANY);
            }
        }

        private void addTable(int into, int other) {
            int many = cellsInUse();
            for (int c = 0; c < many; c++) {
                int sum = cells[into * CELLS + c] + cells[other * CELLS + c];
                cells[into * CELLS + c] = Math.min(sum, MANY);
            }
        }

        private void followBySlot(int slot) {
            for (int i = 0; i <= length; i++) {
                // From behind, so that what is still to be read stays as it was.
                for (int j = length; j > i; j--) {
                    long ways = (long) cells[cell(top, i, j - 1)] * weights[(j - 1) * SLOTS + slot];
                    cells[cell(top, i, j)] = (int) Math.min(ways, MANY);
                }
                cells[cell(top, i, i)] = 0;
            }
        }

        /** Cut at MANY everywhere: sums and products of numbers from 0 on then are right up to it. */
        private void multiply(int into, int by) {
            for (int i = 0; i <= length; i++) {
                // From behind here, too: what is made of a cell goes to itself and those behind it.
                for (int k = length; k >= i; k--) {
                    int to = cell(into, i, k);
                    int from = cell(by, k, k);
                    int ways = cells[to];
                    cells[to] = 0;
                    int many = ways == 0 ? 0 : length - k + 1;
                    for (int c = 0; c < many; c++) {
                        long sum = cells[to + c] + (long) ways * cells[from + c];
                        cells[to + c] = (int) Math.min(sum, MANY);
                    }
                }
            }
        }
    }

    /** Singers, and the book of what they learnt and forgot. */
    private static final class Book {
        private final int[] born = new int[SINGERS];
        private final int[] home = new int[SINGERS];
        private int singers = 0;
        // From whom a line was learnt is not kept: no answer rests on it.
        private final int[] who = new int[ENTRIES];
        private final int[] which = new int[ENTRIES];
        private final int[] when = new int[ENTRIES];
        private final boolean[] learnt = new boolean[ENTRIES];
        private int entries = 0;
        private final int[] newest = new int[LINES];
        private final long[] stocks = new long[SINGERS];
        private final int[] having = new int[VILLAGES];

        private boolean isSinger(int singer) {
            return singer >= 0 && singer < singers;
        }

        private boolean isKnown(int known) {
            return known >= -1 && known <= entries;
        }

        private int addSinger(int year) {
            born[singers] = year;
            singers++;
            return singers - 1;
        }

        private int enter(int singer, int line, int year, boolean learns) {
            who[entries] = singer;
            which[entries] = line;
            when[entries] = year;
            learnt[entries] = learns;
            entries++;
            return entries;
        }

        private long stockOf(int singer, int year, int known) {
            int end = known == -1 ? entries : known;
            long set = 0;
            Arrays.fill(newest, -1);
            for (int e = 0; e < end; e++) {
                int line = which[e];
                if (who[e] == singer && when[e] <= year && when[e] >= newest[line]) {
                    newest[line] = when[e];
                    set = learnt[e] ? set | (1L << line) : set & ~(1L << line);
                }
            }
            return set;
        }

        /** Opens the book at a year as known: all stocks, which what stands below is told by. */
        private void openAt(int year, int known) {
            for (int s = 0; s < singers; s++) stocks[s] = stockOf(s, year, known);
        }

        private int changes(int a, int b) {
            return Long.bitCount(stocks[a] ^ stocks[b]);
        }

        private int masterOf(int singer) {
            int best = NOBODY;
            for (int s = 0; s < singers; s++) {
                if (born[s] < born[singer] && (best == NOBODY || isNearer(s, best, singer))) best = s;
            }
            return best;
        }

        private boolean isNearer(int a, int b, int singer) {
            int less = changes(a, singer) - changes(b, singer);
            return less != 0 ? less < 0 : born[a] > born[b];
        }

        private long masterStock(int singer) {
            int master = masterOf(singer);
            return master == NOBODY ? 0L : stocks[master];
        }

        /** What a singer, its master and those whose master it is have. */
        private long stockAround(int singer) {
            long set = stocks[singer] | masterStock(singer);
            for (int s = 0; s < singers; s++) {
                if (masterOf(s) == singer) set |= stocks[s];
            }
            return set;
        }

        private long commonStock() {
            if (singers == 0) return 0L;
            long set = stocks[0];
            for (int s = 1; s < singers; s++) set &= stocks[s];
            return set;
        }

        private int villageWithMost(int line) {
            Arrays.fill(having, 0);
            for (int s = 0; s < singers; s++) having[home[s]] += bit(stocks[s], line);
            int best = 0;
            for (int v = 1; v < VILLAGES; v++) {
                if (having[v] > having[best]) best = v;
            }
            return having[best] == 0 ? NOBODY : best;
        }
    }

    /** Recordings. */
    private static final class Shelf {
        private final int[] singer = new int[RECORDINGS];
        private final int[] scene = new int[RECORDINGS];
        private final int[] year = new int[RECORDINGS];
        private final int[] size = new int[RECORDINGS];
        private final int[] rows = new int[RECORDINGS * ROW];
        private int recordings = 0;

        private boolean isRecording(int recording) {
            return recording >= 0 && recording < recordings;
        }

        private int addRecording(int bySinger, int ofScene, int inYear, int[] row, int many) {
            singer[recordings] = bySinger;
            scene[recordings] = ofScene;
            year[recordings] = inYear;
            size[recordings] = many;
            System.arraycopy(row, 0, rows, recordings * ROW, many);
            recordings++;
            return recordings - 1;
        }

        private boolean isLost(int recording, int place) {
            return place >= 0 && place < size[recording] && rows[recording * ROW + place] == LOST;
        }

        private int lostPlaces(int recording) {
            int many = 0;
            for (int place = 0; place < size[recording]; place++) {
                if (isLost(recording, place)) many++;
            }
            return many;
        }

        private int lacking(int recording, long stock) {
            int many = 0;
            for (int place = 0; place < size[recording]; place++) {
                int line = rows[recording * ROW + place];
                if (line != LOST && bit(stock, line) == 0) many++;
            }
            return many;
        }
    }
}
