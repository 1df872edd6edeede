import java.util.Arrays;

/** A valley of people who each miss a note; see README.md and the document's promises. */
public final class BlankNote {
    public static final int NONE = -1;

    private static final int NO_SUCH = -2;
    private static final int WRONG_NUMBER = -3;
    private static final int TOO_MANY = -4;
    private static final int NOT_NOW = -5;
    private static final int TRAY_MISSING = -6;
    private static final int NO_SUCH_NUMBER = -7;
    private static final int WHY_NOT = -10;
    private static final int TEXT_FAULT = -30;

    private static final int TAPE_LENGTH = 900;
    private static final int FED_BYTES = 20;
    private static final int MOST_NOTES = 10;
    private static final int MOST = 6;
    private static final int TUNE_NOTES = 9;
    private static final int PLACE_SOUNDS = 4;
    private static final int EARS = 10;
    private static final int TRAYS = 4;
    private static final int TRAY_SIZE = 40;
    private static final int SORTS = 4;
    private static final int IMAGES = 2;
    private static final int MOST_UNDONE = 10;
    private static final int MOST_DAYS = 99;
    private static final int MOST_TIMES = 40;
    private static final int MOST_ANSWERS = 20;
    private static final int CHANCE_DAYS = 6;
    private static final int COUNTED_NOTES = 15;
    private static final int PARTNER = 10;

    private final Reader reader = new Reader();
    private Valley valley = new Valley();
    private final State state = new State();
    private final State before = new State();
    private final History history = new History();
    private final Tray[] trays = new Tray[TRAYS];
    private final Valley[] imageValleys = new Valley[IMAGES];
    private final State[] imageStates = new State[IMAGES];
    private final Trials trials = new Trials();
    private final Together together = new Together();
    private final Singing singing = new Singing();
    private final Finding finding = new Finding();

    public BlankNote() {
        valley.settle();
        for (int i = 0; i < TRAYS; i++) {
            trays[i] = new Tray();
        }
        for (int i = 0; i < IMAGES; i++) {
            imageStates[i] = new State();
        }
    }

    // ---- the valley

    public int feed(int a, int b, int c, int d, int e) {
        if (reader.tapeLength + FED_BYTES > TAPE_LENGTH) {
            return NOT_NOW;
        }
        reader.addBytes(a);
        reader.addBytes(b);
        reader.addBytes(c);
        reader.addBytes(d);
        reader.addBytes(e);
        return reader.tapeLength;
    }

    public int valley(int n) {
        if (n < 0 || n > reader.tapeLength) {
            return WRONG_NUMBER;
        }
        Valley read = reader.read(n);
        if (read == null) {
            return TEXT_FAULT - reader.fault;
        }
        valley = read;
        state.copyFrom(read.start);
        history.forget();
        return read.lines;
    }

    public int fault(int what) {
        if (what == 0) {
            return reader.fault;
        }
        return what == 1 ? reader.faultPlace : NONE;
    }

    public int person(int p, int what) {
        if (!valley.hasPerson(p)) {
            return NO_SUCH;
        }
        switch (what) {
            case 0:
                return state.places[p];
            case 1:
                return state.blanksOf[p];
            case 2:
                return state.ears[p];
            case 3:
                return state.found >> p & 1;
            case 4:
                return valley.heardBy(state, p);
            default:
                return NO_SUCH;
        }
    }

    public int sounds(int place, int day) {
        if (!valley.hasPlace(place)) {
            return NO_SUCH;
        }
        return day < 0 ? WRONG_NUMBER : valley.soundOn(place, day);
    }

    public int place(int k, int what) {
        if (!valley.hasPlace(k)) {
            return NO_SUCH;
        }
        switch (what) {
            case 0:
                return valley.ways[k];
            case 1:
                return state.peopleAt(k, valley.people);
            case 2:
                return valley.soundCount[k];
            default:
                return NO_SUCH;
        }
    }

    public int note(int tune, int i) {
        if (!valley.hasTune(tune)) {
            return NO_SUCH;
        }
        if (i < 0) {
            return WRONG_NUMBER;
        }
        return i < valley.tuneLength[tune] ? valley.tuneNote(tune, i) : NONE;
    }

    public int steps(int tune, int p) {
        if (!valley.hasTune(tune) || !valley.hasPerson(p)) {
            return NO_SUCH;
        }
        return valley.steppedOver(tune, valley.heardBy(state, p));
    }

    public int whole(int set) {
        if (!valley.isPeople(set)) {
            return WRONG_NUMBER;
        }
        int heard = valley.heardByAll(state, set);
        int bits = 0;
        for (int t = 0; t < valley.tuneCount; t++) {
            if (valley.steppedOver(t, heard) == 0) {
                bits |= 1 << t;
            }
        }
        return bits;
    }

    public int owners(int n) {
        if (!valley.hasNote(n)) {
            return NO_SUCH;
        }
        int bits = 0;
        for (int p = 0; p < valley.people; p++) {
            if ((valley.heardBy(state, p) >> n & 1) == 0) {
                bits |= 1 << p;
            }
        }
        return bits;
    }

    // ---- deeds

    public int go(int p, int place) {
        before.copyFrom(state);
        int why = Deeds.move(valley, state, p, place);
        if (why != 0) {
            return WHY_NOT - why;
        }
        history.remember(before);
        return valley.soundOn(place, state.day);
    }

    public int days(int n) {
        if (n < 1 || n > MOST_DAYS) {
            return WRONG_NUMBER;
        }
        history.remember(state);
        int bits = 0;
        for (int i = 0; i < n; i++) {
            bits |= Deeds.passDay(valley, state);
        }
        return bits;
    }

    public int ear(int p, int n) {
        before.copyFrom(state);
        int why = Deeds.takeEar(valley, state, p, n);
        if (why != 0) {
            return WHY_NOT - why;
        }
        history.remember(before);
        return before.ears[p];
    }

    public int blank(int p, int n) {
        before.copyFrom(state);
        int why = Deeds.takeBlank(valley, state, p, n);
        if (why != 0) {
            return WHY_NOT - why;
        }
        history.remember(before);
        return before.blanksOf[p];
    }

    public int undo(int n) {
        if (n < 1 || n > history.size) {
            return WRONG_NUMBER;
        }
        history.bringBack(n, state);
        return history.size;
    }

    public int judge(int tray, int what) {
        Tray told = trayAt(tray);
        if (told == null || what < 0 || what > 3) {
            return NO_SUCH;
        }
        if (told.size < 0) {
            return TRAY_MISSING;
        }
        before.copyFrom(state);
        int done = Deeds.doAll(valley, before, told);
        switch (what) {
            case 0:
                return done < told.size ? done : NONE;
            case 1:
                return done < told.size ? Deeds.doOne(valley, before, told.numbers[done]) : 0;
            case 2:
                return before.found;
            default:
                return before.placesOfAll(valley.people);
        }
    }

    public int perform(int tray) {
        Tray told = trayAt(tray);
        if (told == null) {
            return NO_SUCH;
        }
        if (told.size < 0) {
            return TRAY_MISSING;
        }
        before.copyFrom(state);
        int done = Deeds.doAll(valley, state, told);
        if (done > 0) {
            history.remember(before);
        }
        return done;
    }

    public int year(int seed, int times) {
        if (times < 1 || times > MOST_TIMES) {
            return WRONG_NUMBER;
        }
        before.copyFrom(state);
        int done = Deeds.doByDraws(valley, state, seed, times);
        if (done > 0) {
            history.remember(before);
        }
        return done;
    }

    // ---- trials

    public int blanks(int tray, int p) {
        int refused = whyNoAnswers(tray, p);
        if (refused != 0) {
            return refused;
        }
        trials.gather(valley, state, p);
        return trials.blanksBy(trays[tray]);
    }

    public int attempt(int tray, int p) {
        int refused = whyNoAnswers(tray, p);
        if (refused != 0) {
            return refused;
        }
        trials.gather(valley, state, p);
        return trials.nextNote(trials.blanksBy(trays[tray]));
    }

    public int knowing(int p) {
        if (!valley.hasPerson(p)) {
            return NO_SUCH;
        }
        trials.gather(valley, state, p);
        return trials.fewestAtWorst();
    }

    public int begins(int p) {
        if (!valley.hasPerson(p)) {
            return NO_SUCH;
        }
        trials.gather(valley, state, p);
        return trials.firstNote();
    }

    public int atOnce(int p) {
        if (!valley.hasPerson(p)) {
            return NO_SUCH;
        }
        trials.gather(valley, state, p);
        return trials.leastSet();
    }

    // ---- together

    public int choir(int notes, int m, int what) {
        if (what != 0 && what != 1) {
            return NO_SUCH;
        }
        if (!valley.isNotes(notes) || m < 1 || m > MOST) {
            return WRONG_NUMBER;
        }
        together.gather(valley, state, notes);
        int who = together.leastChoir(m);
        return what == 0 && who != NONE ? Integer.bitCount(who) : who;
    }

    public int row(int notes, int k) {
        if (!valley.isNotes(notes) || k < 0) {
            return WRONG_NUMBER;
        }
        together.gather(valley, state, notes);
        return together.inFirstOrder(k);
    }

    public int rows(int notes) {
        if (!valley.isNotes(notes)) {
            return WRONG_NUMBER;
        }
        together.gather(valley, state, notes);
        return together.countOrders();
    }

    public int pairs(int notes, int what) {
        if (what != 0 && (what < PARTNER || !valley.hasPerson(what - PARTNER))) {
            return NO_SUCH;
        }
        if (!valley.isNotes(notes)) {
            return WRONG_NUMBER;
        }
        together.gather(valley, state, notes);
        int most = together.countPairs();
        return what == 0 ? most : together.partnerOf(what - PARTNER);
    }

    // ---- tunes

    public int longest(int set) {
        if (!valley.isPeople(set)) {
            return WRONG_NUMBER;
        }
        singing.findLongest(valley, valley.heardByAll(state, set));
        return singing.length;
    }

    public int longNote(int set, int i) {
        if (!valley.isPeople(set) || i < 0) {
            return WRONG_NUMBER;
        }
        singing.findLongest(valley, valley.heardByAll(state, set));
        return singing.noteAt(i);
    }

    public int through(int set, int notes) {
        if (!valley.isPeople(set) || !valley.isNotes(notes)) {
            return WRONG_NUMBER;
        }
        boolean is = singing.findThrough(valley, valley.heardByAll(state, set), notes);
        return is ? singing.length : NONE;
    }

    public int throughNote(int set, int notes, int i) {
        if (!valley.isPeople(set) || !valley.isNotes(notes) || i < 0) {
            return WRONG_NUMBER;
        }
        boolean is = singing.findThrough(valley, valley.heardByAll(state, set), notes);
        return is ? singing.noteAt(i) : NONE;
    }

    public long tunes(int set, int n) {
        if (!valley.isPeople(set) || n < 1 || n > COUNTED_NOTES) {
            return WRONG_NUMBER;
        }
        return singing.countOf(valley, valley.heardByAll(state, set), n);
    }

    // ---- finding

    public int finds(int p) {
        return valley.hasPerson(p) ? finding.soonest(valley, state, p) : NO_SUCH;
    }

    public int route(int p, int i) {
        if (!valley.hasPerson(p)) {
            return NO_SUCH;
        }
        return i < 0 ? WRONG_NUMBER : finding.placeOnDay(valley, state, p, i);
    }

    public int all() {
        int last = 0;
        for (int p = 0; p < valley.people; p++) {
            last = Math.max(last, finding.soonest(valley, state, p));
        }
        return last;
    }

    public int near(int p, int n) {
        if (!valley.hasPerson(p)) {
            return NO_SUCH;
        }
        if (n < 1 || n > MOST_DAYS) {
            return WRONG_NUMBER;
        }
        return finding.placesWithin(valley, state, p, n);
    }

    public long chance(int p, int n, int what) {
        if (!valley.hasPerson(p) || (what != 0 && what != 1)) {
            return NO_SUCH;
        }
        if (n < 0 || n > CHANCE_DAYS) {
            return WRONG_NUMBER;
        }
        long above = finding.partsFound(valley, state, p, n);
        long below = Finding.partsInAll(n);
        long shared = Finding.greatestShared(above, below);
        return shared < 1 ? NONE : (what == 0 ? above : below) / shared;
    }

    public int likeliest(int n) {
        if (n < 0 || n > CHANCE_DAYS) {
            return WRONG_NUMBER;
        }
        int who = NONE;
        long most = NONE;
        for (int p = 0; p < valley.people; p++) {
            long parts = state.hasFound(p) ? NONE : finding.partsFound(valley, state, p, n);
            if (parts > most) {
                most = parts;
                who = p;
            }
        }
        return who;
    }

    // ---- trays, images

    public int numbers(int tray, int sort, int n) {
        Tray told = trayAt(tray);
        if (told == null || sort < 0 || sort >= SORTS) {
            return NO_SUCH;
        }
        if (n < 0 || n > TRAY_SIZE) {
            return WRONG_NUMBER;
        }
        told.layOut(sort, n);
        return 0;
    }

    public long write(int tray, int i, long v) {
        Tray told = trayAt(tray);
        if (told == null) {
            return NO_SUCH;
        }
        if (told.size < 0) {
            return TRAY_MISSING;
        }
        return i < 0 || i >= told.size ? NO_SUCH_NUMBER : told.put(i, v);
    }

    public int lists(int tray, int set) {
        Tray told = trayAt(tray);
        if (told == null) {
            return NO_SUCH;
        }
        if (told.size < 0) {
            return TRAY_MISSING;
        }
        if (!valley.isPeople(set)) {
            return WRONG_NUMBER;
        }
        singing.findLongest(valley, valley.heardByAll(state, set));
        int most = Math.min(singing.length, told.size);
        for (int i = 0; i < most; i++) {
            told.put(i, singing.noteAt(i));
        }
        return most;
    }

    public int image(int i) {
        if (i < 0 || i >= IMAGES) {
            return NO_SUCH;
        }
        imageValleys[i] = valley;
        imageStates[i].copyFrom(state);
        return 0;
    }

    public int restore(int i) {
        if (i < 0 || i >= IMAGES) {
            return NO_SUCH;
        }
        Valley kept = imageValleys[i];
        if (kept == null) {
            return NOT_NOW;
        }
        valley = kept;
        state.copyFrom(imageStates[i]);
        history.forget();
        return 0;
    }

    public int count(int what) {
        switch (what) {
            case 0:
                return valley.notes;
            case 1:
                return valley.tuneCount;
            case 2:
                return valley.placeCount;
            case 3:
                return valley.people;
            case 4:
                return state.found;
            case 5:
                return state.day;
            case 6:
                return valley.countWays();
            case 7:
                return history.size;
            case 8:
                return reader.tapeLength;
            case 9:
                return valley.lines;
            default:
                return NONE;
        }
    }

    private Tray trayAt(int tray) {
        return tray < 0 || tray >= TRAYS ? null : trays[tray];
    }

    /** The code by which blanks() and attempt() are refused, or 0. */
    private int whyNoAnswers(int tray, int p) {
        Tray told = trayAt(tray);
        if (told == null || !valley.hasPerson(p)) {
            return NO_SUCH;
        }
        if (told.size < 0) {
            return TRAY_MISSING;
        }
        if (told.size < 1 || told.size > MOST_ANSWERS) {
            return TOO_MANY;
        }
        return told.allFrom0Below(2 * valley.notes) ? 0 : WRONG_NUMBER;
    }

    /** All that a call can change by deeds, and so what is undone. */
    private static final class State {
        final int[] places = new int[MOST];
        final int[] ears = new int[MOST];
        final int[] blanksOf = new int[MOST];
        int found = 0;
        int day = 0;

        void copyFrom(State other) {
            System.arraycopy(other.places, 0, places, 0, MOST);
            System.arraycopy(other.ears, 0, ears, 0, MOST);
            System.arraycopy(other.blanksOf, 0, blanksOf, 0, MOST);
            found = other.found;
            day = other.day;
        }

        boolean hasFound(int p) {
            return (found >> p & 1) == 1;
        }

        int peopleAt(int k, int people) {
            int bits = 0;
            for (int p = 0; p < people; p++) {
                if (places[p] == k) {
                    bits |= 1 << p;
                }
            }
            return bits;
        }

        int placesOfAll(int people) {
            int bits = 0;
            for (int p = 0; p < people; p++) {
                bits |= 1 << places[p];
            }
            return bits;
        }
    }

    /** States that can be brought back, the latest first; the eldest gives way when it is full. */
    private static final class History {
        private final State[] ring = new State[MOST_UNDONE];
        private int next = 0;
        int size = 0;

        History() {
            for (int i = 0; i < MOST_UNDONE; i++) {
                ring[i] = new State();
            }
        }

        void forget() {
            size = 0;
        }

        void remember(State state) {
            ring[next].copyFrom(state);
            next = (next + 1) % MOST_UNDONE;
            size = Math.min(size + 1, MOST_UNDONE);
        }

        void bringBack(int n, State state) {
            next = Math.floorMod(next - n, MOST_UNDONE);
            size -= n;
            state.copyFrom(ring[next]);
        }
    }

    /** Numbers of one sort; below 0 of them: it is missing. */
    private static final class Tray {
        final long[] numbers = new long[TRAY_SIZE];
        int size = NONE;
        private int sort = 0;

        void layOut(int newSort, int n) {
            Arrays.fill(numbers, 0L);
            sort = newSort;
            size = n;
        }

        long put(int i, long v) {
            numbers[i] = cut(v);
            return numbers[i];
        }

        private long cut(long v) {
            switch (sort) {
                case 0:
                    return (byte) v;
                case 1:
                    return (short) v;
                case 2:
                    return (int) v;
                default:
                    return v;
            }
        }

        boolean allFrom0Below(int bound) {
            for (int i = 0; i < size; i++) {
                if (numbers[i] < 0 || numbers[i] >= bound) {
                    return false;
                }
            }
            return true;
        }
    }

    /** A law as steps of a stack machine: numbers, words from FIRST_WORD on, signs from NOT on. */
    private static final class Law {
        static final int FIRST_WORD = 1000;
        static final int NOT = 2000;
        static final int AND = 2001;
        static final int OR = 2002;
        static final int EQUAL = 2003;
        static final int LESS = 2004;
        static final int MORE = 2005;
        static final int PLUS = 2006;
        static final int MINUS = 2007;
        static final int TIMES = 2008;
        private static final int WORDS = 5;
        /** Six levels of brackets leave at most 18 values open at once. */
        private static final int OPEN_VALUES = 24;
        private static final long BOUND = 1000000L;

        private final int[] code;
        private final int[] words = new int[WORDS];
        private final int[] stack = new int[OPEN_VALUES];

        Law(int[] code) {
            this.code = code;
        }

        boolean holds(int first, int second, int third, int fourth, int fifth) {
            words[0] = first;
            words[1] = second;
            words[2] = third;
            words[3] = fourth;
            words[4] = fifth;
            int top = 0;
            for (int step : code) {
                if (step < NOT && top < OPEN_VALUES) {
                    stack[top] = step < FIRST_WORD ? step : wordValue(step - FIRST_WORD);
                    top++;
                } else if (step == NOT && top > 0) {
                    stack[top - 1] = 1 - stack[top - 1];
                } else if (step > NOT && top > 1) {
                    top--;
                    stack[top - 1] = joined(step, stack[top - 1], stack[top]);
                }
            }
            return top > 0 && stack[top - 1] != 0;
        }

        private int wordValue(int word) {
            return word < 0 || word >= WORDS ? 0 : words[word];
        }

        private static int joined(int sign, int a, int b) {
            switch (sign) {
                case AND:
                    return a & b;
                case OR:
                    return a | b;
                case EQUAL:
                    return a == b ? 1 : 0;
                case LESS:
                    return a < b ? 1 : 0;
                case MORE:
                    return a > b ? 1 : 0;
                case PLUS:
                    return kept((long) a + b);
                case MINUS:
                    return kept((long) a - b);
                default:
                    return kept((long) a * b);
            }
        }

        private static int kept(long v) {
            return (int) Math.max(-BOUND, Math.min(BOUND, v));
        }
    }

    /** What a text tells; it stays as it was read, so that images may share it. */
    private static final class Valley {
        int notes = 2;
        int lines = 0;
        int tuneCount = 0;
        int placeCount = 0;
        int people = 0;
        final int[] tuneNotes = new int[MOST * TUNE_NOTES];
        final int[] tuneLength = new int[MOST];
        final int[] soundNotes = new int[MOST * PLACE_SOUNDS];
        final int[] soundCount = new int[MOST];
        final int[] ways = new int[MOST];
        final int[] follow = new int[MOST_NOTES];
        final State start = new State();
        Law hearing = null;
        Law going = null;

        boolean hasPerson(int p) {
            return p >= 0 && p < people;
        }

        boolean hasPlace(int k) {
            return k >= 0 && k < placeCount;
        }

        boolean hasTune(int t) {
            return t >= 0 && t < tuneCount;
        }

        boolean hasNote(int n) {
            return n >= 0 && n < notes;
        }

        boolean isPeople(int set) {
            return set >>> people == 0;
        }

        boolean isNotes(int set) {
            return set >>> notes == 0;
        }

        /** Which note may follow which is the same all along, so the law is asked once. */
        void settle() {
            for (int from = 0; from < notes; from++) {
                follow[from] = 0;
                for (int to = 0; to < notes; to++) {
                    if (going == null || going.holds(from, to, Math.abs(from - to), 0, 0)) {
                        follow[from] |= 1 << to;
                    }
                }
            }
        }

        int tuneNote(int tune, int i) {
            return tuneNotes[tune * TUNE_NOTES + i];
        }

        int steppedOver(int tune, int heard) {
            int bits = 0;
            for (int i = 0; i < tuneLength[tune]; i++) {
                if ((heard >> tuneNote(tune, i) & 1) == 0) {
                    bits |= 1 << i;
                }
            }
            return bits;
        }

        int countWays() {
            int ends = 0;
            for (int k = 0; k < placeCount; k++) {
                ends += Integer.bitCount(ways[k]);
            }
            return ends / 2;
        }

        int soundOn(int k, int day) {
            int count = soundCount[k];
            if (count < 1 || day < 0) {
                return NONE;
            }
            int sound = soundNotes[k * PLACE_SOUNDS + day % count];
            return sound < notes ? sound : NONE;
        }

        /** The places that sound a note on a day; none do without a note. */
        int placesSounding(int n, int day) {
            int bits = 0;
            for (int k = 0; k < placeCount && n != NONE; k++) {
                if (soundOn(k, day) == n) {
                    bits |= 1 << k;
                }
            }
            return bits;
        }

        int withNeighbours(int places) {
            int bits = places;
            for (int k = 0; k < placeCount; k++) {
                if ((places >> k & 1) == 1) {
                    bits |= ways[k];
                }
            }
            return bits;
        }

        int heardBy(State state, int p) {
            int n = state.blanksOf[p];
            return heardWith(state, p, n == NONE ? notes : n);
        }

        /** The notes that a person would hear with this blank (as many as there are notes: none). */
        int heardWith(State state, int p, int blankNumber) {
            boolean hasFound = state.hasFound(p);
            int bits = 0;
            for (int n = 0; n < notes; n++) {
                boolean hears = hearing == null
                        ? hasFound || n != blankNumber
                        : hearing.holds(p, n, blankNumber, state.ears[p], hasFound ? 1 : 0);
                if (hears) {
                    bits |= 1 << n;
                }
            }
            return bits;
        }

        int heardByAll(State state, int set) {
            int bits = (1 << notes) - 1;
            for (int p = 0; p < people; p++) {
                if ((set >> p & 1) == 1) {
                    bits &= heardBy(state, p);
                }
            }
            return bits;
        }
    }

    /** Holds the tape and reads it token by token; after the first fault nothing moves on. */
    private static final class Reader {
        private static final int NO_TOKEN = 1;
        private static final int CANNOT_STAND = 2;
        private static final int OUT_OF_BOUNDS = 3;
        private static final int ONE_TOO_MANY = 4;
        private static final int WORD = 0;
        private static final int NUMBER = 1;
        private static final int SIGN = 2;
        private static final int END = 3;
        private static final int DEEPEST = 6;
        private static final int DIGITS = 3;
        private static final String SIGNS = ";:+-*()[]=<>";

        private final char[] text = new char[TAPE_LENGTH];
        int tapeLength = 0;
        private final int[] code = new int[TAPE_LENGTH];
        private int codeLength = 0;
        private int length = 0;
        private int begin = 0;
        private int end = 0;
        private int kind = END;
        private int value = 0;
        private boolean ofHearing = false;
        private Valley draft = new Valley();
        int fault = 0;
        int faultPlace = NONE;

        void addBytes(int four) {
            for (int shift = 24; shift >= 0 && tapeLength < TAPE_LENGTH; shift -= 8) {
                text[tapeLength] = (char) (four >>> shift & 255);
                tapeLength++;
            }
        }

        /** The valley that the first n bytes of the tape tell, or null with a fault; the tape is empty then. */
        Valley read(int n) {
            length = Math.min(n, tapeLength);
            tapeLength = 0;
            end = 0;
            fault = 0;
            faultPlace = NONE;
            draft = new Valley();
            advance();
            readScale();
            for (int i = 0; i < length && fault == 0 && kind != END; i++) {
                readLine();
            }
            if (fault != 0) {
                return null;
            }
            draft.settle();
            return draft;
        }

        private void fail(int why) {
            if (fault == 0) {
                fault = why;
                faultPlace = begin;
            }
        }

        private void advance() {
            if (fault != 0) {
                return;
            }
            begin = end;
            while (begin < length && (text[begin] == 10 || text[begin] == 32)) {
                begin++;
            }
            end = begin;
            value = 0;
            if (begin >= length) {
                kind = END;
            } else if (isLetter(begin)) {
                kind = WORD;
                while (end < length && isLetter(end)) {
                    end++;
                }
            } else if (isDigit(begin)) {
                kind = NUMBER;
                while (end < length && isDigit(end)) {
                    value = end - begin < DIGITS ? value * 10 + text[end] - '0' : value;
                    end++;
                }
            } else {
                kind = SIGN;
                end += SIGNS.indexOf(text[begin]) < 0 ? 0 : 1;
            }
            boolean tooLong = kind == NUMBER && end - begin > DIGITS;
            if (tooLong || (kind == SIGN && end == begin)) {
                fail(NO_TOKEN);
            }
        }

        private boolean isLetter(int i) {
            return text[i] >= 'a' && text[i] <= 'z';
        }

        private boolean isDigit(int i) {
            return text[i] >= '0' && text[i] <= '9';
        }

        private boolean isAt(String token) {
            if (end - begin != token.length()) {
                return false;
            }
            for (int i = 0; i < token.length(); i++) {
                if (text[begin + i] != token.charAt(i)) {
                    return false;
                }
            }
            return true;
        }

        private void pass(String token) {
            if (!isAt(token)) {
                fail(CANNOT_STAND);
            }
            advance();
        }

        /** The number that stands here, or NONE with a fault. */
        private int passNumber(int least, int most) {
            if (kind != NUMBER) {
                fail(CANNOT_STAND);
            } else if (value < least || value > most) {
                fail(OUT_OF_BOUNDS);
            }
            if (fault != 0) {
                return NONE;
            }
            int told = value;
            advance();
            return told;
        }

        private void readScale() {
            pass("scale");
            int told = passNumber(2, MOST_NOTES);
            draft.notes = told == NONE ? 2 : told;
            pass(";");
            draft.lines = 1;
        }

        private void readLine() {
            if (isAt("tune")) {
                readTune();
            } else if (isAt("place")) {
                readPlace();
            } else if (isAt("way")) {
                readWay();
            } else if (isAt("person")) {
                readPerson();
            } else if (isAt("hears")) {
                beginLaw(true);
                readTruth(0, 0);
                draft.hearing = new Law(Arrays.copyOf(code, codeLength));
            } else if (isAt("goes")) {
                beginLaw(false);
                readTruth(0, 0);
                draft.going = new Law(Arrays.copyOf(code, codeLength));
            } else {
                fail(CANNOT_STAND);
            }
            pass(";");
            draft.lines++;
        }

        private void readTune() {
            int t = draft.tuneCount;
            if (t >= MOST) {
                fail(ONE_TOO_MANY);
                return;
            }
            advance();
            int told = 0;
            while (told < TUNE_NOTES && fault == 0 && (told == 0 || kind == NUMBER)) {
                draft.tuneNotes[t * TUNE_NOTES + told] = passNumber(0, draft.notes - 1);
                told++;
            }
            draft.tuneLength[t] = told;
            draft.tuneCount++;
        }

        private void readPlace() {
            int k = draft.placeCount;
            if (k >= MOST) {
                fail(ONE_TOO_MANY);
                return;
            }
            advance();
            int told = 0;
            while (told < PLACE_SOUNDS && fault == 0 && (told == 0 || kind == NUMBER)) {
                draft.soundNotes[k * PLACE_SOUNDS + told] = passNumber(0, draft.notes);
                told++;
            }
            draft.soundCount[k] = told;
            draft.placeCount++;
        }

        private void readWay() {
            advance();
            int one = passNumber(0, draft.placeCount - 1);
            if (kind == NUMBER && value == one) {
                fail(OUT_OF_BOUNDS);
            }
            int other = passNumber(0, draft.placeCount - 1);
            if (fault == 0 && one >= 0 && other >= 0) {
                draft.ways[one] |= 1 << other;
                draft.ways[other] |= 1 << one;
            }
        }

        private void readPerson() {
            int p = draft.people;
            if (p >= MOST) {
                fail(ONE_TOO_MANY);
                return;
            }
            advance();
            pass("at");
            draft.start.places[p] = Math.max(0, passNumber(0, draft.placeCount - 1));
            draft.start.blanksOf[p] = NONE;
            for (int i = 0; i < length && fault == 0 && !isAt(";"); i++) {
                readFlag(p);
            }
            draft.people++;
        }

        private void readFlag(int p) {
            if (isAt("blank")) {
                advance();
                draft.start.blanksOf[p] = passNumber(0, draft.notes - 1);
            } else if (isAt("ear")) {
                advance();
                draft.start.ears[p] = passNumber(0, EARS - 1);
            } else if (isAt("found")) {
                advance();
                draft.start.found |= 1 << p;
            } else {
                fail(CANNOT_STAND);
            }
        }

        private void beginLaw(boolean hears) {
            ofHearing = hears;
            codeLength = 0;
            advance();
            pass(":");
        }

        private void emit(int step) {
            if (codeLength < TAPE_LENGTH) {
                code[codeLength] = step;
                codeLength++;
            }
        }

        /** Level 0: parts joined by or; level 1: by and; level 2: one unit. */
        private void readTruth(int depth, int level) {
            if (level > 1) {
                readUnit(depth);
                return;
            }
            String word = level == 0 ? "or" : "and";
            readTruth(depth, level + 1);
            for (int i = 0; i < length && fault == 0 && isAt(word); i++) {
                advance();
                readTruth(depth, level + 1);
                emit(level == 0 ? Law.OR : Law.AND);
            }
        }

        private void readUnit(int depth) {
            boolean deeper = isAt("not") || isAt("[");
            if (deeper && depth >= DEEPEST) {
                fail(ONE_TOO_MANY);
            }
            if (fault != 0) {
                return;
            }
            if (isAt("not")) {
                advance();
                readUnit(depth + 1);
                emit(Law.NOT);
            } else if (isAt("[")) {
                advance();
                readTruth(depth + 1, 0);
                pass("]");
            } else {
                readSum(depth, 0);
                int sign = comparison();
                if (sign == NONE) {
                    fail(CANNOT_STAND);
                }
                advance();
                readSum(depth, 0);
                emit(sign);
            }
        }

        private int comparison() {
            if (isAt("=")) {
                return Law.EQUAL;
            }
            if (isAt("<")) {
                return Law.LESS;
            }
            return isAt(">") ? Law.MORE : NONE;
        }

        /** Level 0: parts joined by + and -; level 1: by *; level 2: one atom. */
        private void readSum(int depth, int level) {
            if (level > 1) {
                readAtom(depth);
                return;
            }
            readSum(depth, level + 1);
            int sign = joiner(level);
            for (int i = 0; i < length && fault == 0 && sign != NONE; i++) {
                advance();
                readSum(depth, level + 1);
                emit(sign);
                sign = joiner(level);
            }
        }

        private int joiner(int level) {
            if (level == 1) {
                return isAt("*") ? Law.TIMES : NONE;
            }
            if (isAt("+")) {
                return Law.PLUS;
            }
            return isAt("-") ? Law.MINUS : NONE;
        }

        private void readAtom(int depth) {
            if (isAt("(") && depth >= DEEPEST) {
                fail(ONE_TOO_MANY);
            }
            if (fault != 0) {
                return;
            }
            if (kind == NUMBER) {
                emit(value);
                advance();
            } else if (isAt("(")) {
                advance();
                readSum(depth + 1, 0);
                pass(")");
            } else {
                int word = ofHearing ? wordOfHearing() : wordOfGoing();
                if (word == NONE) {
                    fail(CANNOT_STAND);
                }
                emit(Law.FIRST_WORD + word);
                advance();
            }
        }

        private int wordOfHearing() {
            if (isAt("who")) {
                return 0;
            }
            if (isAt("note")) {
                return 1;
            }
            if (isAt("blank")) {
                return 2;
            }
            if (isAt("ear")) {
                return 3;
            }
            return isAt("found") ? 4 : NONE;
        }

        private int wordOfGoing() {
            if (isAt("from")) {
                return 0;
            }
            if (isAt("to")) {
                return 1;
            }
            return isAt("step") ? 2 : NONE;
        }
    }

    /** What happens to a state; each deed answers 0 if it was done, else why not. */
    private static final class Deeds {
        private static final int NOT_THERE = 1;
        private static final int NO_WAY = 2;
        private static final int DEEDS_OF_A_KIND = 100;
        private static final int KINDS = 3;

        static int move(Valley valley, State state, int p, int k) {
            if (!valley.hasPerson(p) || !valley.hasPlace(k)) {
                return NOT_THERE;
            }
            if ((valley.ways[state.places[p]] >> k & 1) == 0) {
                return NO_WAY;
            }
            state.places[p] = k;
            return 0;
        }

        static int takeEar(Valley valley, State state, int p, int n) {
            if (!valley.hasPerson(p) || n < 0 || n >= EARS) {
                return NOT_THERE;
            }
            state.ears[p] = n;
            return 0;
        }

        static int takeBlank(Valley valley, State state, int p, int n) {
            if (!valley.hasPerson(p) || (n != NONE && !valley.hasNote(n))) {
                return NOT_THERE;
            }
            state.blanksOf[p] = n;
            state.found &= ~(1 << p);
            return 0;
        }

        /** Who finds on this day and had not found before. */
        static int passDay(Valley valley, State state) {
            int bits = 0;
            for (int p = 0; p < valley.people; p++) {
                int n = state.blanksOf[p];
                if (n != NONE && valley.soundOn(state.places[p], state.day) == n) {
                    bits |= 1 << p;
                }
            }
            bits &= ~state.found;
            state.found |= bits;
            state.day++;
            return bits;
        }

        static int doOne(Valley valley, State state, long deed) {
            if (deed == NONE) {
                passDay(valley, state);
                return 0;
            }
            if (deed < 0 || deed >= KINDS * DEEDS_OF_A_KIND) {
                return NOT_THERE;
            }
            int told = (int) deed;
            int p = told % DEEDS_OF_A_KIND / 10;
            int n = told % 10;
            switch (told / DEEDS_OF_A_KIND) {
                case 0:
                    return move(valley, state, p, n);
                case 1:
                    return takeEar(valley, state, p, n);
                default:
                    return takeBlank(valley, state, p, n);
            }
        }

        /** How many are done till one can't be. */
        static int doAll(Valley valley, State state, Tray tray) {
            for (int i = 0; i < tray.size; i++) {
                if (doOne(valley, state, tray.numbers[i]) != 0) {
                    return i;
                }
            }
            return tray.size;
        }

        static int doByDraws(Valley valley, State state, int seed, int times) {
            int x = seed;
            int done = 0;
            for (int i = 0; i < times; i++) {
                x = nextSeed(x);
                int kind = (x >>> 16) % 5;
                int deed = NONE;
                if (kind != 0) {
                    x = nextSeed(x);
                    deed = kindOfDeed(kind) + (x >>> 16) % MOST * 10;
                    x = nextSeed(x);
                    deed += (x >>> 16) % (kind < 3 ? MOST : 10);
                }
                if (doOne(valley, state, deed) == 0) {
                    done++;
                }
            }
            return done;
        }

        private static int nextSeed(int x) {
            return 1103515245 * x + 12345;
        }

        private static int kindOfDeed(int kind) {
            return kind < 3 ? 0 : (kind - 2) * DEEDS_OF_A_KIND;
        }
    }

    /** What one would hear by each blank that it may have. */
    private static final class Trials {
        private int notes = 0;
        /** By each blank, none last, the notes that would be heard. */
        private final int[] heard = new int[MOST_NOTES + 1];
        /** Blanks that no trial tells apart are one kind. */
        private final int[] kinds = new int[MOST_NOTES + 1];
        private int kindCount = 0;
        /** By each note, the kinds that would hear it. */
        private final int[] hearers = new int[MOST_NOTES];
        /** By each set of kinds, the fewest trials at worst that tell them apart. */
        private final byte[] fewest = new byte[1 << (MOST_NOTES + 1)];

        void gather(Valley valley, State state, int p) {
            notes = valley.notes;
            kindCount = 0;
            Arrays.fill(hearers, 0);
            for (int b = 0; b <= notes; b++) {
                heard[b] = valley.heardWith(state, p, b);
                if (isNewKind(heard[b])) {
                    addKind(heard[b]);
                }
            }
        }

        private boolean isNewKind(int bits) {
            for (int k = 0; k < kindCount; k++) {
                if (kinds[k] == bits) {
                    return false;
                }
            }
            return true;
        }

        private void addKind(int bits) {
            kinds[kindCount] = bits;
            for (int n = 0; n < notes; n++) {
                if ((bits >> n & 1) == 1) {
                    hearers[n] |= 1 << kindCount;
                }
            }
            kindCount++;
        }

        int blanksBy(Tray answers) {
            int bits = 0;
            for (int b = 0; b <= notes; b++) {
                boolean fits = true;
                for (int i = 0; i < answers.size && fits; i++) {
                    int told = (int) answers.numbers[i];
                    fits = (heard[b] >> (told >> 1) & 1) == (told & 1);
                }
                if (fits) {
                    bits |= 1 << b;
                }
            }
            return bits;
        }

        int nextNote(int blanks) {
            int best = NONE;
            int most = NONE;
            for (int n = 0; n < notes && blanks != 0; n++) {
                int hearing = 0;
                for (int b = 0; b <= notes; b++) {
                    hearing += blanks >> b & heard[b] >> n & 1;
                }
                int lesser = Math.min(hearing, Integer.bitCount(blanks) - hearing);
                if (lesser > most) {
                    most = lesser;
                    best = n;
                }
            }
            return best;
        }

        int fewestAtWorst() {
            int all = (1 << kindCount) - 1;
            fewest[0] = 0;
            for (int set = 1; set <= all; set++) {
                int best = (set & set - 1) == 0 ? 0 : MOST_NOTES;
                for (int n = 0; n < notes && best > 0; n++) {
                    best = Math.min(best, worstBeginningWith(n, set));
                }
                fewest[set] = (byte) best;
            }
            return fewest[all];
        }

        private int worstBeginningWith(int n, int set) {
            int yes = set & hearers[n];
            int no = set & ~hearers[n];
            return yes == 0 || no == 0 ? MOST_NOTES : 1 + Math.max(fewest[yes], fewest[no]);
        }

        int firstNote() {
            int all = (1 << kindCount) - 1;
            int least = fewestAtWorst();
            for (int n = 0; n < notes && least > 0; n++) {
                if (worstBeginningWith(n, all) == least) {
                    return n;
                }
            }
            return NONE;
        }

        int leastSet() {
            int best = (1 << notes) - 1;
            for (int set = 0; set < 1 << notes; set++) {
                if (Integer.bitCount(set) < Integer.bitCount(best) && tellsApart(set)) {
                    best = set;
                }
            }
            return best;
        }

        private boolean tellsApart(int set) {
            for (int a = 0; a < kindCount; a++) {
                for (int b = 0; b < a; b++) {
                    if (((kinds[a] ^ kinds[b]) & set) == 0) {
                        return false;
                    }
                }
            }
            return true;
        }
    }

    /** People who hear each note of a set among them. */
    private static final class Together {
        private static final int SETS = 1 << MOST;
        private int people = 0;
        private int needed = 0;
        private final int[] heard = new int[MOST];
        /** By the people who stand and the last of them, in how many ways the row can go on. */
        private final int[] endings = new int[SETS * MOST];
        /** By each set of people, the most pairs in it. */
        private final int[] mostPairs = new int[SETS];

        void gather(Valley valley, State state, int notes) {
            people = valley.people;
            needed = notes;
            for (int p = 0; p < people; p++) {
                heard[p] = valley.heardBy(state, p);
            }
        }

        int leastChoir(int times) {
            int best = NONE;
            int size = people + 1;
            for (int set = 0; set < 1 << people; set++) {
                if (Integer.bitCount(set) < size && isChoir(set, times)) {
                    best = set;
                    size = Integer.bitCount(set);
                }
            }
            return best;
        }

        private boolean isChoir(int set, int times) {
            for (int n = 0; n < MOST_NOTES; n++) {
                int hearing = 0;
                for (int p = 0; p < people; p++) {
                    hearing += set >> p & heard[p] >> n & 1;
                }
                if ((needed >> n & 1) == 1 && hearing < times) {
                    return false;
                }
            }
            return true;
        }

        private boolean fit(int p, int q) {
            return (needed & ~(heard[p] | heard[q])) == 0;
        }

        int countOrders() {
            if (people == 0) {
                return 1;
            }
            int everyone = (1 << people) - 1;
            for (int standing = everyone; standing > 0; standing--) {
                for (int last = 0; last < people; last++) {
                    endings[standing * MOST + last] = standing == everyone ? 1 : countEndings(standing, last);
                }
            }
            int orders = 0;
            for (int p = 0; p < people; p++) {
                orders += endings[(1 << p) * MOST + p];
            }
            return orders;
        }

        private int countEndings(int standing, int last) {
            int sum = 0;
            for (int q = 0; q < people; q++) {
                if ((standing >> q & 1) == 0 && fit(last, q)) {
                    sum += endings[(standing | 1 << q) * MOST + q];
                }
            }
            return sum;
        }

        /** The k-th person of the first row. */
        int inFirstOrder(int k) {
            if (k >= people || countOrders() == 0) {
                return NONE;
            }
            int standing = 0;
            int last = NONE;
            for (int i = 0; i <= k; i++) {
                last = nextInOrder(standing, last);
                if (last == NONE) {
                    return NONE;
                }
                standing |= 1 << last;
            }
            return last;
        }

        private int nextInOrder(int standing, int last) {
            for (int q = 0; q < people; q++) {
                boolean free = (standing >> q & 1) == 0;
                if (free && (last == NONE || fit(last, q)) && endings[(standing | 1 << q) * MOST + q] > 0) {
                    return q;
                }
            }
            return NONE;
        }

        int countPairs() {
            int everyone = (1 << people) - 1;
            mostPairs[0] = 0;
            for (int set = 1; set <= everyone; set++) {
                int p = Integer.numberOfTrailingZeros(set);
                int rest = set & set - 1;
                int most = mostPairs[rest];
                for (int q = p + 1; q < people; q++) {
                    if ((rest >> q & 1) == 1 && fit(p, q)) {
                        most = Math.max(most, 1 + mostPairs[rest & ~(1 << q)]);
                    }
                }
                mostPairs[set] = most;
            }
            return mostPairs[everyone];
        }

        /** With whom one is in the first of the most pairs; countPairs() comes ahead. */
        int partnerOf(int who) {
            int rest = (1 << people) - 1;
            for (int p = 0; p < people; p++) {
                if ((rest >> p & 1) == 1) {
                    int q = firstPartner(p, rest);
                    if (p == who || q == who) {
                        return p == who ? q : p;
                    }
                    rest &= ~(1 << p);
                    rest &= q == NONE ? rest : ~(1 << q);
                }
            }
            return NONE;
        }

        private int firstPartner(int p, int rest) {
            int others = rest & ~(1 << p);
            for (int q = p + 1; q < people; q++) {
                boolean free = (others >> q & 1) == 1;
                if (free && fit(p, q) && 1 + mostPairs[others & ~(1 << q)] == mostPairs[rest]) {
                    return q;
                }
            }
            return NONE;
        }
    }

    /** Tunes over the notes that all of some people hear. */
    private static final class Singing {
        private static final int SETS = 1 << MOST_NOTES;
        /** At most nine ways of at most nine notes each come behind the first note. */
        private static final int MOST_LENGTH = 82;
        private static final int FAR = 1000;
        private final int[] path = new int[MOST_LENGTH];
        int length = 0;
        /** By each set of notes, those with which a tune of just these, each once, can begin. */
        private final int[] beginnings = new int[SETS];
        private final int[] far = new int[MOST_NOTES * MOST_NOTES];
        /** By the notes still needed and the note one is on, how many more notes; made when first asked for. */
        private int[] more = null;
        private final long[] endings = new long[MOST_NOTES];
        private final long[] longer = new long[MOST_NOTES];

        int noteAt(int i) {
            return i < 0 || i >= length ? NONE : path[i];
        }

        void findLongest(Valley valley, int heard) {
            length = 0;
            for (int set = 1; set < 1 << valley.notes; set++) {
                beginnings[set] = (set & ~heard) == 0 ? beginningsOf(valley, set) : 0;
                if (beginnings[set] != 0) {
                    length = Math.max(length, Integer.bitCount(set));
                }
            }
            int used = 0;
            int next = heard;
            for (int i = 0; i < length; i++) {
                int open = next & beginningsWithout(used, length - i, valley.notes);
                if (open == 0) {
                    length = i;
                    return;
                }
                path[i] = Integer.numberOfTrailingZeros(open);
                used |= 1 << path[i];
                next = valley.follow[path[i]];
            }
        }

        private int beginningsOf(Valley valley, int set) {
            if ((set & set - 1) == 0) {
                return set;
            }
            int bits = 0;
            for (int n = 0; n < valley.notes; n++) {
                if ((set >> n & 1) == 1 && (valley.follow[n] & beginnings[without(set, n)]) != 0) {
                    bits |= 1 << n;
                }
            }
            return bits;
        }

        private int beginningsWithout(int used, int size, int notes) {
            int bits = 0;
            for (int set = 1; set < 1 << notes; set++) {
                if (beginnings[set] != 0 && (set & used) == 0 && Integer.bitCount(set) == size) {
                    bits |= beginnings[set];
                }
            }
            return bits;
        }

        /** Whether there is a tune through all needed notes; the first of the shortest is laid out. */
        boolean findThrough(Valley valley, int heard, int needed) {
            length = 0;
            if ((needed & ~heard) != 0) {
                return false;
            }
            if (needed == 0) {
                return true;
            }
            if (more == null) {
                more = new int[SETS * MOST_NOTES];
            }
            measureWays(valley, heard);
            measureMore(valley.notes, heard, needed);
            int total = FAR;
            for (int n = 0; n < valley.notes; n++) {
                total = (heard >> n & 1) == 1 ? Math.min(total, 1 + more[without(needed, n) * MOST_NOTES + n]) : total;
            }
            if (total > MOST_LENGTH) {
                return false;
            }
            layOutThrough(valley, heard, needed, total);
            return true;
        }

        private void measureWays(Valley valley, int heard) {
            int notes = valley.notes;
            for (int a = 0; a < notes; a++) {
                for (int b = 0; b < notes; b++) {
                    boolean next = (valley.follow[a] >> b & heard >> a & heard >> b & 1) == 1;
                    far[a * MOST_NOTES + b] = a == b ? 0 : next ? 1 : FAR;
                }
            }
            for (int by = 0; by < notes; by++) {
                for (int a = 0; a < notes; a++) {
                    for (int b = 0; b < notes; b++) {
                        int round = far[a * MOST_NOTES + by] + far[by * MOST_NOTES + b];
                        far[a * MOST_NOTES + b] = Math.min(far[a * MOST_NOTES + b], round);
                    }
                }
            }
        }

        /** Lesser sets are measured ahead of those that they are within. */
        private void measureMore(int notes, int heard, int needed) {
            for (int set = 0; set <= needed; set++) {
                for (int n = 0; n < notes && (set & ~needed) == 0; n++) {
                    if ((heard >> n & 1) == 1 && (set >> n & 1) == 0) {
                        more[set * MOST_NOTES + n] = fewestMore(notes, set, n);
                    }
                }
            }
        }

        private int fewestMore(int notes, int set, int n) {
            int best = set == 0 ? 0 : FAR;
            for (int to = 0; to < notes && set != 0; to++) {
                if ((set >> to & 1) == 1) {
                    best = Math.min(best, far[n * MOST_NOTES + to] + more[without(set, to) * MOST_NOTES + to]);
                }
            }
            return best;
        }

        private static int without(int set, int n) {
            return set & ~(1 << n);
        }

        private void layOutThrough(Valley valley, int heard, int needed, int total) {
            int open = heard;
            int set = needed;
            for (int left = total; left > 0; left--) {
                int n = firstTowards(open, set, left - 1, valley.notes);
                if (n == NONE) {
                    return;
                }
                path[length] = n;
                length++;
                set = without(set, n);
                open = heard & valley.follow[n];
            }
        }

        private int firstTowards(int open, int set, int left, int notes) {
            for (int n = 0; n < notes; n++) {
                if ((open >> n & 1) == 1 && more[without(set, n) * MOST_NOTES + n] == left) {
                    return n;
                }
            }
            return NONE;
        }

        /** How many tunes of just so many notes there are. */
        long countOf(Valley valley, int heard, int size) {
            for (int n = 0; n < valley.notes; n++) {
                endings[n] = heard >> n & 1;
            }
            for (int i = 1; i < size; i++) {
                for (int n = 0; n < valley.notes; n++) {
                    longer[n] = (heard >> n & 1) == 0 ? 0L : comingTo(valley, n);
                }
                System.arraycopy(longer, 0, endings, 0, valley.notes);
            }
            long sum = 0;
            for (int n = 0; n < valley.notes; n++) {
                sum += endings[n];
            }
            return sum;
        }

        private long comingTo(Valley valley, int to) {
            long sum = 0;
            for (int from = 0; from < valley.notes; from++) {
                if ((valley.follow[from] >> to & 1) == 1) {
                    sum += endings[from];
                }
            }
            return sum;
        }
    }

    /** How people come on their notes. */
    private static final class Finding {
        /** Five days till all that can be reached is, and twelve in which all sounds come round. */
        private static final int HORIZON = 18;
        /** One to six ways to go: all of these divide it. */
        private static final int PARTS = 60;
        private final int[] targets = new int[HORIZON];
        private final long[] parts = new long[MOST];
        private final long[] moved = new long[MOST];

        int soonest(Valley valley, State state, int p) {
            if (state.hasFound(p)) {
                return 0;
            }
            int n = state.blanksOf[p];
            int reached = 1 << state.places[p];
            for (int i = 0; i < HORIZON; i++) {
                reached = valley.withNeighbours(reached);
                if ((reached & valley.placesSounding(n, state.day + i)) != 0) {
                    return i + 1;
                }
            }
            return NONE;
        }

        int placeOnDay(Valley valley, State state, int p, int i) {
            int total = soonest(valley, state, p);
            if (total > HORIZON || i >= total) {
                return NONE;
            }
            int target = valley.placesSounding(state.blanksOf[p], state.day + total - 1);
            for (int d = total - 1; d >= 0; d--) {
                targets[d] = target;
                target = valley.withNeighbours(target);
            }
            int here = state.places[p];
            for (int d = 0; d <= i; d++) {
                int open = targets[d] & valley.withNeighbours(1 << here);
                if (open == 0) {
                    return NONE;
                }
                here = Integer.numberOfTrailingZeros(open);
            }
            return here;
        }

        int placesWithin(Valley valley, State state, int p, int n) {
            if (state.hasFound(p)) {
                return (1 << valley.placeCount) - 1;
            }
            int places = 0;
            for (int i = n - 1; i >= 0; i--) {
                places |= valley.placesSounding(state.blanksOf[p], state.day + i);
                places = valley.withNeighbours(places);
            }
            return places;
        }

        /** How likely one has found within n days, in parts of partsInAll(n). */
        long partsFound(Valley valley, State state, int p, int n) {
            if (state.hasFound(p)) {
                return partsInAll(n);
            }
            Arrays.fill(parts, 0L);
            parts[state.places[p]] = 1;
            long found = 0;
            for (int i = 0; i < n; i++) {
                moveAtRandom(valley);
                int sounding = valley.placesSounding(state.blanksOf[p], state.day + i);
                found *= PARTS;
                for (int k = 0; k < valley.placeCount; k++) {
                    boolean finds = (sounding >> k & 1) == 1;
                    found += finds ? moved[k] : 0;
                    parts[k] = finds ? 0 : moved[k];
                }
            }
            return found;
        }

        private void moveAtRandom(Valley valley) {
            Arrays.fill(moved, 0L);
            for (int k = 0; k < valley.placeCount; k++) {
                int open = valley.ways[k] | 1 << k;
                long each = parts[k] * (PARTS / Math.max(1, Integer.bitCount(open)));
                for (int to = 0; to < valley.placeCount; to++) {
                    moved[to] += (open >> to & 1) == 1 ? each : 0;
                }
            }
        }

        static long partsInAll(int n) {
            long product = 1;
            for (int i = 0; i < n; i++) {
                product *= PARTS;
            }
            return product;
        }

        static long greatestShared(long above, long below) {
            long a = above;
            long b = below;
            for (int i = 0; i < 100 && a != 0; i++) {
                long rest = b % a;
                b = a;
                a = rest;
            }
            return b;
        }
    }
}
