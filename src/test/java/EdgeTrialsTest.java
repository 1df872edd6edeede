/** The edges of promises 20 to 24: which blank one has, by which notes it heard. */
public final class EdgeTrialsTest extends Bench {

    private static final String LINE = "place 0;person at 0;hears : note < blank;";

    /** The answers, in a tray of this sort. */
    private static int blanks(BlankNote x, int sort, long... answers) {
        x.numbers(0, sort, answers.length);
        for (int i = 0; i < answers.length; i++) x.write(0, i, answers[i]);
        return x.blanks(0, 0);
    }

    private static int attempt(BlankNote x, long... answers) {
        blanks(x, 1, answers);
        return x.attempt(0, 0);
    }

    /** So many answers, all alike but for the last. */
    private static long[] many(int n, long each, long last) {
        long[] v = new long[n];
        for (int i = 0; i < n; i++) v[i] = i == n - 1 ? last : each;
        return v;
    }

    // ---- promise 20

    private static void blanks() {
        sentence(20, "TRIALS of a PERSON's blank: BLANKS: all NOTES, and none (told as bits; none: the bit behind the last NOTE).");
        BlankNote x = told("scale 2;place 0;person at 0;");
        due("0 was heard", blanks(x, 0, 1), 6);
        due("0 was not", blanks(x, 0, 0), 1);
        due("1 was not", blanks(x, 0, 2), 2);
        due("both were: none", blanks(x, 0, 1, 3), 4);
        due("both were not", blanks(x, 0, 0, 2), 0);
        x = told("scale 10;place 0;person at 0 blank 3;");
        due("9 was heard", blanks(x, 0, 19), 2047 - 512);
        due("9 was not", blanks(x, 0, 18), 512);
        due("all were: none", blanks(x, 0, 1, 3, 5, 7, 9, 11, 13, 15, 17, 19), 1024);
        due("all but the last", blanks(x, 0, 1, 3, 5, 7, 9, 11, 13, 15, 17), 1024 + 512);
        x = told("scale 10;place 0;person at 0;hears : 1 = 1;");
        due("by all of them", blanks(x, 0, 19), 2047);
        due("by none of them", blanks(x, 0, 18), 0);
        sentence(20, "ANSWERS in a TRAY (1 to 20 numbers): 2 times a NOTE, and 1 if it HEARD it, else 0: BLANKS by which it would (EAR, FOUND as now).");
        x = told("scale 10;place 0;person at 0;");
        due("one number", blanks(x, 0, many(1, 0, 19)), 2047 - 512);
        due("twenty numbers", blanks(x, 0, many(20, 1, 3)), 2047 - 3);
        due("the last of twenty counts", blanks(x, 0, many(20, 1, 0)), 0);
        due("the first of twenty counts", blanks(x, 0, 0, 1, 1, 1, 1, 1, 1, 1, 1, 1, 1, 1, 1, 1, 1, 1, 1, 1, 1, 1), 0);
        due("the same twice", blanks(x, 0, 5, 5), 2047 - 4);
        x = told("scale 4;place 0;person at 0 ear 2 blank 0;hears : note < ear or note < blank;");
        due("0 was heard, by the ear", blanks(x, 0, 1), 31);
        x.ear(0, 0);
        due("0 was heard, by another ear", blanks(x, 0, 1), 30);
        x.blank(0, 3);
        due("the blank that it has is not asked", blanks(x, 0, 1), 30);
        x = told("scale 4;place 0;person at 0 blank 1 found;");
        due("found: it hears all", blanks(x, 0, 3), 31);
        due("found: it would not", blanks(x, 0, 2), 0);
        x.blank(0, 1);
        due("found no more", blanks(x, 0, 2), 2);
        sentence(20, "ANSWERS: BLANKS, as bits. -2: the TRAY, the PERSON; -6; -4: not 1 to 20 numbers; -3: one is none such.");
        for (int n : new int[] {2, 4, 10}) {
            x = told("scale " + n + ";place 0;person at 0;");
            due("the greatest answer", blanks(x, 2, 2 * n - 1), (2 << n) - 1 - (1 << n - 1));
            due("the least answer", blanks(x, 2, 0), 1);
            for (long v : new long[] {2 * n, 2 * n + 1, -1, -2, MAX, MIN}) {
                due("none such: " + v, blanks(x, 2, v), -3);
                due("none such at the end: " + v, blanks(x, 2, many(20, 1, v)), -3);
                due("none such at the beginning: " + v, blanks(x, 2, v, 1), -3);
            }
            for (long v : new long[] {1L << 32, (1L << 32) + 1, Long.MIN_VALUE, Long.MIN_VALUE + 1, Long.MAX_VALUE}) due("none such: " + v, blanks(x, 3, v), -3);
        }
        counted(true);
    }

    /** How many numbers there may be, and what is told first; attempt() is as blanks(). */
    private static void counted(boolean first) {
        BlankNote x = told(CHAIN);
        Call[] calls = {y -> first ? y.blanks(0, 0) : y.attempt(0, 0), y -> first ? y.blanks(0, 3) : y.attempt(0, 3), y -> first ? y.blanks(0, -1) : y.attempt(0, -1)};
        due("missing", calls[0].of(x), -6);
        due("missing, and no such person", calls[1].of(x), -2);
        due("missing, and no such person", calls[2].of(x), -2);
        for (int t : new int[] {-1, 4, MIN, MAX}) due("no such tray", first ? x.blanks(t, 0) : x.attempt(t, 0), -2);
        for (int p : new int[] {-1, 3, MIN, MAX}) due("no such person", first ? x.blanks(3, p) : x.attempt(3, p), -2);
        for (int n : new int[] {0, 21, 22, 40}) {
            x.numbers(0, 0, n);
            due(n + " numbers", calls[0].of(x), -4);
            if (n > 0) x.write(0, 0, 99);
            due(n + " numbers, one none such", calls[0].of(x), -4);
            due(n + " numbers, no such person", calls[1].of(x), -2);
        }
        for (int n : new int[] {1, 20}) {
            x.numbers(0, 0, n);
            due(n + " numbers, all 0", calls[0].of(x), first ? 1 : 0);
            x.write(0, n - 1, 8);
            due(n + " numbers, one none such", calls[0].of(x), -3);
            due(n + " numbers, one none such, no such person", calls[1].of(x), -2);
        }
    }

    // ---- promise 21

    private static void attempt() {
        sentence(21, "The NOTE to try next: the lesser number of these BLANKS by which it would HEAR it, or wouldn't, is greatest, the first. NONE: there are none; as blanks().");
        BlankNote x = told("scale 2;place 0;person at 0;");
        due("1, or none", attempt(x, 1), 1);
        due("0, or none", attempt(x, 3), 0);
        due("one is left: the first note", attempt(x, 1, 3), 0);
        due("one is left: the first note", attempt(x, 2), 0);
        due("there are none", attempt(x, 0, 2), NONE);
        x = told("scale 10;" + LINE);
        due("blanks 1 to 10: five and five by note 5", attempt(x, 1), 5);
        due("blanks 1 to 9: four by note 4, and by 5", attempt(x, 1, 18), 4);
        due("blanks 9, 10: by the last note", attempt(x, 17), 9);
        due("blank 0 alone", attempt(x, 0), 0);
        due("blank 10 alone", attempt(x, 19), 0);
        due("there are none", attempt(x, 0, 19), NONE);
        x = told("scale 10;place 0;person at 0;hears : note = 9 and blank < 5;");
        due("only the last note tells", attempt(x, 0), 9);
        x = told("scale 10;place 0;person at 0;hears : 1 = 0;");
        due("nothing tells: the first", attempt(x, 0), 0);
        due("there are none", attempt(x, 1), NONE);
        x = told("scale 4;place 0;person at 0;hears : note = 1 and blank = 0 or note = 2 and blank > 0 or note = 3 and blank < 2;");
        due("would by less, or wouldn't by less: 3", attempt(x, 0), 3);
        counted(false);
    }

    // ---- promises 22 to 24

    private static void known(String text, int knowing, int begins, int atOnce) {
        due("knowing(0) of <" + text + ">", told(text).knowing(0), knowing);
        due("begins(0) of <" + text + ">", told(text).begins(0), begins);
        due("atOnce(0) of <" + text + ">", told(text).atOnce(0), atOnce);
    }

    private static void knowing() {
        sentence(22, "KNOWING: how many NOTES at worst. -2.");
        known("scale 2;place 0;person at 0;", 2, 0, 3);
        known("scale 10;place 0;person at 0;", 10, 0, 1023);
        known("scale 10;place 0;person at 0 blank 9 ear 9;", 10, 0, 1023);
        sentence(22, "KNOWING: NOTES tried one behind the other, each by what was heard ahead, so that of all BLANKS those that could be told apart by trying all are told apart: the fewest at worst.");
        int[] worst = {2, 2, 3, 3, 3, 3, 4, 4, 4};
        int[] begins = {0, 1, 0, 1, 2, 3, 0, 1, 2};
        for (int n = 2; n <= 10; n++) known("scale " + n + ";" + LINE, worst[n - 2], begins[n - 2], (1 << n) - 1);
        known("scale 7;place 0;person at 0;hears : note = 0 and [blank = 1 or blank = 3 or blank = 5 or blank = 7] or note = 1 and [blank = 2 or blank = 3 or blank > 5] or note = 2 and blank > 3;", 3, 0, 7);
        known("scale 4;place 0;person at 0 ear 3;hears : note < ear or note < blank;", 1, 3, 8);
        known("scale 4;place 0;person at 0 ear 4;hears : note < ear or note < blank;", 0, NONE, 0);
        sentence(23, "The first NOTE with which KNOWING can begin so. NONE: none is needed; -2.");
        known("scale 10;place 0;person at 0;hears : note = 9 and blank = 10;", 1, 9, 512);
        known("scale 10;place 0;person at 0;hears : note > 7 and blank = 0;", 1, 8, 256);
        known("scale 10;place 0;person at 0;hears : 1 = 1;", 0, NONE, 0);
        known("scale 10;place 0;person at 0;hears : 1 = 0;", 0, NONE, 0);
        known("scale 10;place 0;person at 0 found;", 0, NONE, 0);
        known("scale 10;place 0;person at 0 blank 4 found;", 0, NONE, 0);
        sentence(24, "AT ONCE: the set, as bits. -2.");
        known("scale 10;place 0;person at 0;hears : note = 0 and blank = 0;", 1, 0, 1);
        sentence(24, "AT ONCE: a set of NOTES that tells these apart, the fewest, of like ones the least set.");
        known("scale 10;place 0;person at 0;hears : blank = 0;", 1, 0, 1);
        due("the least of sets of three", told("scale 5;place 0;person at 0;hears : blank = 0 and [note = 0 or note = 4] or blank = 3 and [note = 1 or note = 2] or blank = 4 and note > 2 or blank = 5 and [note = 0 or note = 2];").atOnce(0), 13);
        due("the fewest, if not the least", told("scale 4;place 0;person at 0;hears : note = 0 and blank = 0 or note = 1 and blank = 1 or note = 2 and blank < 2 or note = 3 and [blank = 0 or blank = 2];").atOnce(0), 12);
        for (int p = 0; p < 6; p++) due("knowing(" + p + "): its own who", told(FULL + "hears : who = 5 and note = blank;").knowing(p), p == 5 ? 10 : 0);
        BlankNote x = told(FULL);
        for (int p : new int[] {-1, 6, 7, MIN, MAX}) {
            due("knowing(" + p + ")", x.knowing(p), -2);
            due("begins(" + p + ")", x.begins(p), -2);
            due("atOnce(" + p + ")", x.atOnce(p), -2);
        }
        for (int p = 0; p < 6; p++) {
            boolean found = p == 2 || p == 5;
            due("knowing(" + p + ")", x.knowing(p), found ? 0 : 10);
            due("begins(" + p + ")", x.begins(p), found ? NONE : 0);
            due("atOnce(" + p + ")", x.atOnce(p), found ? 0 : 1023);
        }
        due("without people", new BlankNote().knowing(0), -2);
        x = told("scale 4;place 0;person at 0;person at 0 ear 3;hears : note < ear or note < blank;");
        int[] worst2 = {3, 1, 3, 1};
        for (int i = 0; i < 4; i++) due("one behind the other, knowing(" + i % 2 + ")", x.knowing(i % 2), worst2[i]);
        for (int i = 0; i < 4; i++) due("one behind the other, begins(" + i % 2 + ")", x.begins(i % 2), i % 2 * 3);
        for (int i = 0; i < 4; i++) due("one behind the other, atOnce(" + i % 2 + ")", x.atOnce(i % 2), 15 - i % 2 * 7);
    }

    public static void main(String[] args) {
        blanks();
        attempt();
        knowing();
        end();
    }
}
