/** The edges of promises 25 to 28: choirs, rows, pairs. */
public final class EdgeTogetherTest extends Bench {

    private static final int[] NO_SETS = {1024, 1025, 2047, 1 << 30, -1, MIN, MAX};

    /** So many people who all miss note 0, and so many who miss nothing. */
    private static String folk(int missing, int hearing) {
        return "scale 10;place 0;" + "person at 0 blank 0;".repeat(missing) + "person at 0;".repeat(hearing);
    }

    // ---- promise 25

    private static void choir(BlankNote x, int notes, int m, int who) {
        due("choir(" + notes + ", " + m + ", 1)", x.choir(notes, m, 1), who);
        due("choir(" + notes + ", " + m + ", 0)", x.choir(notes, m, 0), who == NONE ? NONE : Integer.bitCount(who));
    }

    private static void choirs() {
        sentence(25, "A CHOIR for a set of NOTES, m times (1 to 6), what 0: how many, 1: who, as bits.");
        BlankNote x = told(FULL);
        int[] all = {4, 12, 44, 31, 63, NONE};
        int[] fifth = {1, 3, 7, 15, 31, 63};
        for (int m = 1; m <= 6; m++) {
            choir(x, 1023, m, all[m - 1]);
            choir(x, 32, m, fifth[m - 1]);
            choir(x, 0, m, 0);
        }
        int[] first = {2, 6, 14, 30, 62, NONE};
        int[] last = {1, 3, 7, 15, 47, NONE};
        for (int m = 1; m <= 6; m++) {
            choir(x, 1, m, first[m - 1]);
            choir(x, 512, m, last[m - 1]);
        }
        sentence(25, "NONE: none is; -2: what; -3: others are in the set, m.");
        for (int set : NO_SETS) for (int w = 0; w < 2; w++) due("choir(" + set + ", 1, " + w + ")", x.choir(set, 1, w), -3);
        for (int m : new int[] {0, 7, -1, 8, MIN, MAX}) for (int set : new int[] {0, 1023}) due("choir(" + set + ", " + m + ", 0)", x.choir(set, m, 0), -3);
        for (int w : new int[] {-1, 2, 3, 10, MIN, MAX}) {
            due("choir(1, 1, " + w + ")", x.choir(1, 1, w), -2);
            due("choir(-1, 0, " + w + "): what is told first", x.choir(-1, 0, w), -2);
        }
        x = new BlankNote();
        choir(x, 0, 1, 0);
        choir(x, 0, 6, 0);
        choir(x, 1, 1, NONE);
        choir(x, 3, 6, NONE);
        due("a third note", x.choir(4, 1, 0), -3);
        x = told(folk(6, 0));
        choir(x, 1, 1, NONE);
        choir(x, 1022, 6, 63);
        sentence(25, "A CHOIR for a set of NOTES: PEOPLE so that each of these is HEARD by m of them at least: the fewest, of like ones the least set.");
        x = told("scale 4;place 0;" + "person at 0;".repeat(5) + "hears : who = 0 and note < 2 or who = 1 and [note = 0 or note = 2] or who = 2 and [note = 1 or note = 3] or who = 3 and note > 1 or who = 4 and note > 0;");
        choir(x, 15, 1, 6);
        choir(x, 14, 1, 16);
        choir(x, 15, 2, 15);
        choir(x, 15, 3, NONE);
        choir(x, 8, 3, 28);
    }

    // ---- promises 26, 27

    private static void row(BlankNote x, int notes, int rows, int... first) {
        due("rows(" + notes + ")", x.rows(notes), rows);
        for (int k = 0; k < 8; k++) {
            // another set in between, so that nothing of the last answer helps
            due("rows(0)", x.rows(0), factorial(x.count(3)));
            due("row(" + notes + ", " + k + ")", x.row(notes, k), k < first.length ? first[k] : NONE);
        }
        due("row(" + notes + ", max)", x.row(notes, MAX), NONE);
        due("row(" + notes + ", -1)", x.row(notes, -1), -3);
        due("row(" + notes + ", min)", x.row(notes, MIN), -3);
    }

    private static int factorial(int n) {
        return n < 2 ? 1 : n * factorial(n - 1);
    }

    private static void rows() {
        sentence(26, "A ROW for a set of NOTES: the k-th PERSON. NONE: there is none, not so many; -3: the set, k is below 0.");
        row(told(FULL), 1023, 720, 0, 1, 2, 3, 4, 5);
        row(told(FULL), 0, 720, 0, 1, 2, 3, 4, 5);
        row(told(folk(6, 0)), 1, 0);
        row(told(folk(6, 0)), 1022, 720, 0, 1, 2, 3, 4, 5);
        row(told(folk(2, 0)), 1, 0);
        row(told(folk(2, 0)), 2, 2, 0, 1);
        row(told(folk(1, 0)), 1023, 1, 0);
        row(told(folk(0, 1)), 1023, 1, 0);
        row(told(folk(4, 2)), 1023, 0);
        BlankNote x = told(FULL);
        for (int set : NO_SETS) {
            due("rows(" + set + ")", x.rows(set), -3);
            for (int k : new int[] {0, 5, 6, -1}) due("row(" + set + ", " + k + ")", x.row(set, k), -3);
        }
        sentence(27, "How many ROWS there are (1 without PEOPLE). -3.");
        x = new BlankNote();
        row(x, 0, 1);
        row(x, 3, 1);
        due("rows(4)", x.rows(4), -3);
        due("rows(-1)", x.rows(-1), -3);
        due("row(4, 0)", x.row(4, 0), -3);
        sentence(26, "A ROW: all PEOPLE in an order so that of each two neighbours one HEARS each NOTE of a set: the first one.");
        row(told(folk(3, 3)), 1023, 144, 0, 3, 1, 4, 2, 5);
        row(told(folk(3, 2)), 1023, 12, 0, 3, 1, 4, 2);
        row(told(folk(2, 1)), 1023, 2, 0, 2, 1);
        row(told("scale 10;place 0;person at 0;person at 0 blank 0;person at 0 blank 0;"), 1, 2, 1, 0, 2);
    }

    // ---- promise 28

    private static void pairs(BlankNote x, int notes, int many, int... with) {
        due("pairs(" + notes + ", 0)", x.pairs(notes, 0), many);
        for (int p = 0; p < 7; p++) due("pairs(" + notes + ", " + (10 + p) + ")", x.pairs(notes, 10 + p), p < with.length ? with[p] : -2);
    }

    private static void pairs() {
        sentence(28, "PAIRS for a set of NOTES, what 0: how many, 10 + p: with whom PERSON p is (NONE). -2: what (10 and a PERSON); -3: the set.");
        pairs(told(FULL), 1023, 3, 1, 0, 3, 2, 5, 4);
        pairs(told(FULL), 0, 3, 1, 0, 3, 2, 5, 4);
        pairs(told(folk(6, 0)), 1, 0, NONE, NONE, NONE, NONE, NONE, NONE);
        pairs(told(folk(6, 0)), 1022, 3, 1, 0, 3, 2, 5, 4);
        pairs(told(folk(1, 0)), 0, 0, NONE);
        pairs(told(folk(0, 5)), 1023, 2, 1, 0, 3, 2, NONE);
        pairs(told(folk(0, 2)), 1023, 1, 1, 0);
        pairs(new BlankNote(), 3, 0);
        BlankNote x = told(FULL);
        for (int w : new int[] {-1, 1, 9, 16, 17, -10, MIN, MAX}) {
            due("pairs(0, " + w + ")", x.pairs(0, w), -2);
            due("pairs(-1, " + w + "): what is told first", x.pairs(-1, w), -2);
        }
        for (int set : NO_SETS) for (int w : new int[] {0, 10, 15}) due("pairs(" + set + ", " + w + ")", x.pairs(set, w), -3);
        x = new BlankNote();
        due("without people", x.pairs(0, 10), -2);
        due("a third note", x.pairs(4, 0), -3);
        sentence(28, "PAIRS likewise: two and two, each PERSON once at most: the most, of like ones the first (PERSON by PERSON the one it is with, none behind all).");
        pairs(told(folk(3, 3)), 1023, 3, 3, 4, 5, 0, 1, 2);
        pairs(told(folk(4, 2)), 1023, 2, 4, 5, NONE, NONE, 0, 1);
        pairs(told(folk(1, 3) + "person at 0 blank 0;"), 1, 2, 1, 0, 3, 2, NONE);
        pairs(told(folk(5, 1)), 1023, 1, 5, NONE, NONE, NONE, NONE, 0);
        x = told("scale 3;place 0;" + "person at 0;".repeat(4) + "hears : not [who = 0 and note = 0 or who = 1 and note = 2 or who = 2 and note > 0 or who = 3 and note < 2];");
        pairs(x, 7, 2, 2, 3, 0, 1);
        pairs(x, 6, 2, 2, 3, 0, 1);
        pairs(x, 1, 2, 1, 0, 3, 2);
    }

    public static void main(String[] args) {
        choirs();
        rows();
        pairs();
        end();
    }
}
