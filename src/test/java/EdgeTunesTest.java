/** The edges of promises 29 to 33 and 42: the longest tune, the shortest through told notes, how many there are. */
public final class EdgeTunesTest extends Bench {

    private static final int[] NO_PEOPLE = {64, 65, 127, 1 << 30, -1, MIN, MAX};
    private static final int[] NO_NOTES = {1024, 1025, 2047, 1 << 30, -1, MIN, MAX};
    private static final String RING = "scale 10;goes : to = from + 1 or from = 9 and to = 0;";
    private static final String STAR = "scale 6;goes : from = 0 or to = 0;";
    /** 0 to 4 in a line; from 4 to each of 5 to 9, and from these to 0. */
    private static final String ROUNDS = "scale 10;goes : from < 4 and to = from + 1 or from = 4 and to > 4 or from > 4 and to = 0;";
    private static final String DEAF = "scale 10;place 0;person at 0;person at 0;hears : who = 1;";

    private static void longest(BlankNote x, int set, int... notes) {
        due("longest(" + set + ")", x.longest(set), notes.length);
        for (int i = 0; i < notes.length; i++) due("longNote(" + set + ", " + i + ")", x.longNote(set, i), notes[i]);
        for (int i : new int[] {notes.length, notes.length + 1, 82, 1000, MAX}) due("longNote(" + set + ", " + i + ")", x.longNote(set, i), NONE);
        for (int i : new int[] {-1, MIN}) due("longNote(" + set + ", " + i + ")", x.longNote(set, i), -3);
    }

    private static void through(BlankNote x, int set, int needed, int... notes) {
        due("through(" + set + ", " + needed + ")", x.through(set, needed), notes.length);
        String call = "throughNote(" + set + ", " + needed + ", ";
        for (int i = 0; i < notes.length; i++) due(call + i + ")", x.throughNote(set, needed, i), notes[i]);
        for (int i : new int[] {notes.length, notes.length + 1, 82, 1000, MAX}) due(call + i + ")", x.throughNote(set, needed, i), NONE);
        for (int i : new int[] {-1, MIN}) due(call + i + ")", x.throughNote(set, needed, i), -3);
    }

    private static void noneThrough(BlankNote x, int set, int needed) {
        due("through(" + set + ", " + needed + ")", x.through(set, needed), NONE);
        for (int i : new int[] {0, 1, MAX}) due("throughNote(" + set + ", " + needed + ", " + i + ")", x.throughNote(set, needed, i), NONE);
        due("throughNote(" + set + ", " + needed + ", -1)", x.throughNote(set, needed, -1), -3);
    }

    // ---- promises 29, 30

    private static void longest() {
        sentence(29, "The LONGEST TUNE for a set of PEOPLE: how many NOTES (0: they HEAR none all). -3: the set.");
        BlankNote x = told(FULL);
        longest(x, 0, 0, 1, 2, 3, 4, 5, 6, 7, 8, 9);
        longest(x, 63, 2, 3, 4, 5, 6, 7, 8);
        longest(x, 1, 1, 2, 3, 4, 5, 6, 7, 8, 9);
        longest(x, 32, 0, 1, 2, 3, 4, 5, 6, 7, 8, 9);
        longest(told(DEAF), 1);
        longest(told(DEAF), 3);
        longest(told(DEAF), 2, 0, 1, 2, 3, 4, 5, 6, 7, 8, 9);
        longest(told("scale 10;goes : 1 = 0;"), 0, 0);
        longest(told("scale 2;place 0;person at 0 blank 0;person at 0 blank 1;"), 3);
        longest(told("scale 2;place 0;person at 0 blank 0;person at 0 blank 1;"), 1, 1);
        longest(new BlankNote(), 0, 0, 1);
        for (int set : NO_PEOPLE) {
            due("longest(" + set + ")", x.longest(set), -3);
            for (int i : new int[] {0, -1, MAX}) due("longNote(" + set + ", " + i + ")", x.longNote(set, i), -3);
        }
        due("without people", new BlankNote().longest(1), -3);
        sentence(30, "Its i-th NOTE. NONE: not so many; -3: the set, i is below 0.");
        longest(told("scale 2;goes : step = 0;"), 0, 0);
        due("longNote(1, 0) without people", new BlankNote().longNote(1, 0), -3);
        sentence(29, "A TUNE for a set of PEOPLE: NOTES, each HEARD by all of these, each next one as may follow.");
        longest(told(CHAIN), 0, 0, 1, 2, 3);
        longest(told(CHAIN), 1, 0, 1);
        longest(told(CHAIN), 3, 0, 1);
        sentence(29, "The LONGEST without a NOTE twice;");
        longest(told(STAR), 0, 1, 0, 2);
        longest(told(RING), 0, 0, 1, 2, 3, 4, 5, 6, 7, 8, 9);
        longest(told("scale 10;goes : from = to + 1;"), 0, 9, 8, 7, 6, 5, 4, 3, 2, 1, 0);
        longest(told(ROUNDS), 0, 5, 0, 1, 2, 3, 4, 6);
        longest(told("scale 5;goes : from = 4 and to = 2 or from = 2 and to = 3 or from = 0 and to = 1;"), 0, 4, 2, 3);
    }

    // ---- promises 31, 32

    private static void through() {
        sentence(31, "THROUGH a set of NOTES, for a set of PEOPLE: how many NOTES. NONE: there is none; -3: a set.");
        BlankNote x = told(FULL);
        through(x, 0, 0);
        through(x, 63, 0);
        through(x, 0, 1, 0);
        through(x, 0, 512, 9);
        through(x, 0, 1023, 0, 1, 2, 3, 4, 5, 6, 7, 8, 9);
        through(x, 63, 508, 2, 3, 4, 5, 6, 7, 8);
        noneThrough(x, 63, 1);
        noneThrough(x, 63, 1023);
        noneThrough(x, 16, 512);
        through(x, 16, 511, 0, 1, 2, 3, 4, 5, 6, 7, 8);
        for (int set : NO_PEOPLE) for (int notes : new int[] {0, 1023, 1024, -1}) refusedThrough(x, set, notes);
        for (int notes : NO_NOTES) for (int set : new int[] {0, 63, 64}) refusedThrough(x, set, notes);
        through(new BlankNote(), 0, 3, 0, 1);
        refusedThrough(new BlankNote(), 0, 4);
        refusedThrough(new BlankNote(), 1, 0);
        through(told(DEAF), 1, 0);
        noneThrough(told(DEAF), 1, 1);
        noneThrough(told(DEAF), 3, 512);
        through(told(DEAF), 2, 512, 9);
        sentence(32, "Its i-th NOTE. NONE: not so many, there is none; -3: a set, i is below 0.");
        noneThrough(told("scale 3;goes : 1 = 0;"), 0, 3);
        through(told("scale 3;goes : 1 = 0;"), 0, 4, 2);
        noneThrough(told("scale 3;goes : to < from and to = 1;"), 0, 7);
        sentence(31, "THROUGH a set of NOTES: one that has all of these, the fewest NOTES (twice may be); of like ones the first by NOTES.");
        through(told(STAR), 0, 62, 1, 0, 2, 0, 3, 0, 4, 0, 5);
        through(told(STAR), 0, 6, 1, 0, 2);
        through(told(STAR), 0, 3, 0, 1);
        through(told(RING), 0, 513, 9, 0);
        through(told(RING), 0, 33, 0, 1, 2, 3, 4, 5);
        through(told(RING), 0, 129, 7, 8, 9, 0);
        through(told(RING), 0, 385, 7, 8, 9, 0);
        through(told("scale 4;goes : from = 0 and to = 2 or from = 2 and to = 3 or from = 1 and to = 3;"), 0, 9, 0, 2, 3);
        String two = "scale 4;place 0;person at 0 blank 1;goes : from = 0 and to > 0 and to < 3 or to = 3 and from > 0 and from < 3;";
        through(told(two), 0, 9, 0, 1, 3);
        through(told(two), 1, 9, 0, 2, 3);
        through(told(RING), 0, 1023, 0, 1, 2, 3, 4, 5, 6, 7, 8, 9);
        through(told(ROUNDS), 0, 1023, 5, 0, 1, 2, 3, 4, 6, 0, 1, 2, 3, 4, 7, 0, 1, 2, 3, 4, 8, 0, 1, 2, 3, 4, 9);
        through(told(ROUNDS), 0, 992, 5, 0, 1, 2, 3, 4, 6, 0, 1, 2, 3, 4, 7, 0, 1, 2, 3, 4, 8, 0, 1, 2, 3, 4, 9);
        through(told(ROUNDS), 0, 768, 8, 0, 1, 2, 3, 4, 9);
        through(told(CHAIN), 0, 9, 0, 1, 2, 3);
        noneThrough(told(CHAIN), 1, 9);
        noneThrough(told(CHAIN), 1, 4);
        through(told(CHAIN), 1, 8, 3);
        through(told("scale 4;goes : from = 0 and to > 0 and to < 3 or from = 1 and to = 3 or from = 2 and to = 3;"), 0, 9, 0, 1, 3);
    }

    private static void refusedThrough(BlankNote x, int set, int notes) {
        due("through(" + set + ", " + notes + ")", x.through(set, notes), -3);
        due("throughNote(" + set + ", " + notes + ", 0)", x.throughNote(set, notes, 0), -3);
    }

    // ---- promise 33

    private static void tunes() {
        sentence(33, "How many TUNES of just n NOTES (1 to 15) there are for a set of PEOPLE. -3: the set, n.");
        BlankNote x = told(FULL);
        long ten = 1;
        long seven = 1;
        for (int n = 1; n <= 15; n++) {
            ten *= 10;
            seven *= 7;
            due("tunes(0, " + n + ")", x.tunes(0, n), ten);
            due("tunes(63, " + n + ")", x.tunes(63, n), seven);
        }
        for (int n : new int[] {0, -1, 16, 17, MIN, MAX}) for (int set : new int[] {0, 63}) due("tunes(" + set + ", " + n + ")", x.tunes(set, n), -3);
        for (int set : NO_PEOPLE) for (int n : new int[] {1, 15, 0}) due("tunes(" + set + ", " + n + ")", x.tunes(set, n), -3);
        due("two notes, fifteen long", new BlankNote().tunes(0, 15), 32768);
        due("tunes(1, 1) without people", new BlankNote().tunes(1, 1), -3);
        x = told(DEAF);
        due("they hear none", x.tunes(1, 1), 0);
        due("they hear none", x.tunes(3, 15), 0);
        x = told("scale 10;goes : 1 = 0;");
        due("one note each", x.tunes(0, 1), 10);
        due("no two", x.tunes(0, 2), 0);
        due("no fifteen", x.tunes(0, 15), 0);
        due("round and round", told(RING).tunes(0, 15), 10);
        due("one and the same", told("scale 10;goes : step = 0;").tunes(0, 15), 10);
        due("only on", told("scale 10;goes : from < to;").tunes(0, 10), 1);
        due("only on, one more", told("scale 10;goes : from < to;").tunes(0, 11), 0);
    }

    // ---- promise 42

    private static void lists() {
        sentence(42, "NOTES of the LONGEST TUNE for a set of PEOPLE come into a TRAY, as far as it has places: how many. -2: the TRAY; -6; -3: the set.");
        for (int sort = 0; sort < 4; sort++) {
            for (int size : new int[] {0, 1, 9, 10, 11, 40}) {
                BlankNote x = told(FULL + "goes : from = to + 1;");
                x.numbers(sort, sort, size);
                for (int i = 0; i < size; i++) x.write(sort, i, 105);
                due("lists into " + size, x.lists(sort, 0), Math.min(size, 10));
                inTray(x, sort, size, 10);
            }
        }
        BlankNote x = told(FULL);
        for (int t = 0; t < 4; t++) due("missing", x.lists(t, 0), -6);
        for (int t = 0; t < 4; t++) due("missing, and others in the set", x.lists(t, 64), -6);
        for (int t : new int[] {-1, 4, MIN, MAX}) for (int set : new int[] {0, 64}) due("lists(" + t + ", " + set + ")", x.lists(t, set), -2);
        x.numbers(0, 0, 0);
        due("into none", x.lists(0, 63), 0);
        for (int set : NO_PEOPLE) due("lists(0, " + set + ")", x.lists(0, set), -3);
        x.numbers(0, 0, 40);
        due("of all people", x.lists(0, 63), 7);
        x = told(DEAF);
        x.numbers(3, 3, 40);
        x.write(3, 0, 100);
        due("they hear none", x.lists(3, 1), 0);
        due("the tray stays as it was", x.judge(3, 0), 1);
        due("the tray stays as it was", x.perform(3), 1);
        due("without people", new BlankNote().lists(0, 0), -6);
    }

    /** Notes 9 to 0 of the longest tune, then an ear each: person 0 at place 0 goes to no place above 5. */
    private static void inTray(BlankNote x, int tray, int size, int notes) {
        int[] whys = {2, 0, 0, 0, 0, 0, 1, 1, 1, 1};
        for (int i = 0; i < Math.min(size, notes); i++) {
            int n = notes - 1 - i;
            due("note " + n + " as a deed", x.judge(tray, 0), whys[n] == 0 && i == size - 1 ? NONE : firstWrong(i, size, notes, whys));
            x.write(tray, i, NONE);
        }
        due("all can be now", x.perform(tray), size);
        due("the rest stays: no days", x.count(5), Math.min(size, notes));
        due("the rest stays: an ear", x.person(0, 2), size > notes ? 5 : 0);
    }

    private static int firstWrong(int from, int size, int notes, int[] whys) {
        int here = 0;
        for (int i = from; i < size && i < notes; i++) {
            int n = notes - 1 - i;
            if (whys[n] == 1 || n == here) return i;
            here = n;
        }
        return NONE;
    }

    public static void main(String[] args) {
        longest();
        through();
        tunes();
        lists();
        end();
    }
}
