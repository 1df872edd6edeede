import java.util.List;

/** The edges of promises 12 to 19: going, days, ears, blanks, undoing, deeds in a tray, years. */
public final class EdgeDeedsTest extends Bench {

    // ---- promise 12

    private static void go() {
        sentence(12, "To GO: what that PLACE SOUNDS today (NONE). -11, -12.");
        BlankNote x = told(FULL);
        int[] third = {3, 4, 5, 6};
        for (int d = 0; d < 9; d++) {
            due("go(0, 3) on day " + d, x.go(0, 3), third[d % 4]);
            due("go(0, 5): none", x.go(0, 5), NONE);
            due("go(1, 2) on day " + d, x.go(1, 2), d % 3 == 1 ? NONE : 2);
            due("go(1, 1) on day " + d, x.go(1, 1), d % 2 == 0 ? NONE : 1);
            x.days(1);
        }
        x = told(FULL);
        due("the last person to the first place", x.go(5, 0), 0);
        due("the first person to the last place", x.go(0, 5), NONE);
        due("who goes", x.place(0, 1), 32);
        due("who went", x.place(5, 1), 1);
        sentence(12, "To GO: to a PLACE by a way.");
        x = told(CHAIN);
        due("go(0, 1)", x.go(0, 1), 1);
        due("by the other end of it", x.go(0, 0), 0);
        due("one way on", x.go(0, 1), 1);
        due("and one more", x.go(0, 2), 2);
        due("two ways at once", x.go(0, 0), -12);
        due("nobody finds by going", x.count(4), 0);
        due("no day is over", x.count(5), 0);
        sentence(12, "Why not: 1 no such PERSON, PLACE, EAR, NOTE. 2 there is no way (to GO).");
        for (int p : new int[] {-1, 3, MIN, MAX}) for (int k : new int[] {0, 1, 2, -1, 3}) due("go(" + p + ", " + k + ")", x.go(p, k), -11);
        for (int k : new int[] {-1, 3, MIN, MAX, 33, 32}) due("go(0, " + k + ")", x.go(0, k), -11);
        due("to where it is", x.go(0, 2), -12);
        due("go(2, 0)", x.go(2, 0), -12);
        x = told("scale 2;place 0;place 1;person at 0;");
        due("without ways", x.go(0, 1), -12);
        due("to where it is", x.go(0, 0), -12);
    }

    // ---- promise 13

    private static void days() {
        sentence(13, "n DAYS (1 to 99): who has FOUND in these, as bits. -3.");
        BlankNote x = told("scale 2;place 2 2 2 0;place 1;person at 0 blank 0;person at 1;person at 1 blank 0;");
        for (int n : new int[] {0, -1, 100, 101, MIN, MAX}) due("days(" + n + ")", x.days(n), -3);
        due("day", x.count(5), 0);
        due("days(3): not yet", x.days(3), 0);
        due("day", x.count(5), 3);
        due("days(1)", x.days(1), 1);
        due("day", x.count(5), 4);
        due("days(99): it has already", x.days(99), 0);
        due("day", x.count(5), 103);
        due("days(98)", x.days(98), 0);
        due("day", x.count(5), 201);
        x = told("scale 2;place 2 2 2 0;person at 0 blank 0;");
        due("days(4): on the last of them", x.days(4), 1);
        x = told(FULL);
        due("all who can, on day 0", x.days(1), 17);
        due("who has found", x.count(4), 1 + 4 + 16 + 32);
        due("person 1 on day 1", x.days(1), 2);
        due("nobody else", x.days(99), 0);
        sentence(13, "A DAY: who is at a PLACE that SOUNDS its blank that DAY (the SOUND of DAY modulo how many it has) has FOUND, for good; then DAY is 1 more.");
        x = told("scale 4;place 0 1 2;person at 0 blank 2;person at 0 blank 0;person at 0 blank 1;person at 0 blank 3;person at 0;");
        int[] finders = {2, 4, 1, 0, 0, 0};
        for (int d = 0; d < 6; d++) {
            due("day", x.count(5), d);
            due("on day " + d, x.days(1), finders[d]);
        }
        due("for good", x.count(4), 7);
        x = told(CHAIN);
        x.days(1);
        due("go(0, 1)", x.go(0, 1), 2);
        x.days(1);
        due("found", x.count(4), 1);
        x.go(0, 0);
        x.days(99);
        due("still", x.person(0, 3), 1);
        x = told("scale 2;place 2;person at 0;");
        due("none sounds, and no blank: it isn't found", x.days(99), 0);
        due("count(4)", x.count(4), 0);
        x = told("scale 2;place 2 0;person at 0 blank 0;person at 0 blank 1;");
        for (int i = 0; i < 500; i++) x.days(99);
        due("day after day", x.count(5), 500 * 99);
        due("found", x.count(4), 1);
    }

    // ---- promises 14, 15

    private static void ear() {
        sentence(14, "To have an EAR (0 to 9): what it was. -11.");
        BlankNote x = told(FULL);
        for (int n : new int[] {-1, 10, 11, MIN, MAX}) for (int p = 0; p < 6; p++) due("ear(" + p + ", " + n + ")", x.ear(p, n), -11);
        for (int p : new int[] {-1, 6, MIN, MAX}) for (int n : new int[] {0, 9, -1, 10}) due("ear(" + p + ", " + n + ")", x.ear(p, n), -11);
        due("count(7)", x.count(7), 0);
        int was = 1;
        for (int n = 0; n < 10; n++) {
            due("ear(4, " + n + ")", x.ear(4, n), was);
            due("person(4, 2)", x.person(4, 2), n);
            was = n;
        }
        due("ear(4, 9): as it was", x.ear(4, 9), 9);
        due("the last person", x.ear(5, 9), 0);
        due("the others keep theirs", x.person(1, 2), 9);
        due("who has found stays", x.count(4), 36);
        due("the blank stays", x.person(4, 1), 9);
    }

    private static void blank() {
        sentence(15, "To have a BLANK: what it was (NONE). -11.");
        BlankNote x = told(FULL);
        for (int n : new int[] {-2, 10, 11, MIN, MAX}) for (int p = 0; p < 6; p++) due("blank(" + p + ", " + n + ")", x.blank(p, n), -11);
        for (int p : new int[] {-1, 6, MIN, MAX}) for (int n : new int[] {0, 9, NONE, 10}) due("blank(" + p + ", " + n + ")", x.blank(p, n), -11);
        due("count(7)", x.count(7), 0);
        due("who has found", x.count(4), 36);
        int was = 0;
        for (int n = NONE; n < 10; n++) {
            due("blank(0, " + n + ")", x.blank(0, n), was);
            due("person(0, 1)", x.person(0, 1), n);
            due("what it hears", x.person(0, 4), n == NONE ? 1023 : 1023 - (1 << n));
            was = n;
        }
        x = told("scale 2;place 0;person at 0;");
        due("the last of two notes", x.blank(0, 1), NONE);
        due("no third", x.blank(0, 2), -11);
        sentence(15, "To have an EAR; to have a BLANK (a NOTE, or NONE): FOUND no more.");
        x = told(FULL);
        due("the blank that it had", x.blank(2, 9), 9);
        due("found no more", x.count(4), 32);
        due("none that had none", x.blank(5, NONE), NONE);
        due("found no more", x.count(4), 0);
        x.days(1);
        due("who finds then", x.count(4), 17);
        due("another one's", x.blank(0, NONE), 0);
        due("the others have still", x.count(4), 16);
    }

    // ---- promise 16

    private static void undo() {
        sentence(16, "n calls (1 to 10) are UNDONE: how many still can be. -3: n, more than can be.");
        BlankNote x = told(CHAIN);
        for (int n : new int[] {0, 1, -1, 10, 11, MIN, MAX}) due("undo(" + n + ") with none", x.undo(n), -3);
        for (int i = 0; i < 10; i++) {
            due("ear(0, " + i + ")", x.ear(0, i), Math.max(0, i - 1));
            due("count(7)", x.count(7), i + 1);
        }
        for (int n : new int[] {0, -1, 11, 12, MIN, MAX}) due("undo(" + n + ")", x.undo(n), -3);
        due("undo(1)", x.undo(1), 9);
        due("ear", x.person(0, 2), 8);
        due("undo(10): one more than can be", x.undo(10), -3);
        due("ear", x.person(0, 2), 8);
        due("undo(2)", x.undo(2), 7);
        due("ear", x.person(0, 2), 6);
        due("undo(7)", x.undo(7), 0);
        due("ear", x.person(0, 2), 0);
        due("undo(1)", x.undo(1), -3);
        for (int i = 0; i < 10; i++) x.ear(0, 9 - i);
        due("undo(10)", x.undo(10), 0);
        due("ear", x.person(0, 2), 0);
        undoEldest();
        undoEach();
    }

    private static void undoEldest() {
        sentence(16, "Calls that did some can be UNDONE each as a whole, the latest first, 10 at most (eldest are forgotten)");
        for (int calls = 9; calls <= 32; calls++) {
            BlankNote x = told(CHAIN);
            for (int i = 1; i <= calls; i++) x.ear(2, i % 10);
            int can = Math.min(10, calls);
            due("count(7) after " + calls, x.count(7), can);
            for (int i = 1; i <= can; i++) {
                due("undo(1)", x.undo(1), can - i);
                due("ear", x.person(2, 2), (calls - i) % 10);
            }
            due("undo(1)", x.undo(1), -3);
        }
        BlankNote x = told(CHAIN);
        for (int i = 0; i < 15; i++) x.days(1);
        due("undo(3)", x.undo(3), 7);
        due("day", x.count(5), 12);
        for (int i = 0; i < 2; i++) x.days(2);
        due("count(7)", x.count(7), 9);
        due("undo(9)", x.undo(9), 0);
        due("day", x.count(5), 5);
        x.days(7);
        due("count(7)", x.count(7), 1);
        due("undo(1)", x.undo(1), 0);
        due("day", x.count(5), 5);
    }

    private static void undoEach() {
        sentence(16, "PLACES of PEOPLE, EARS, BLANKS, who has FOUND, DAY.");
        undone("go", x -> x.go(0, 5));
        undone("a day", x -> x.days(1));
        undone("days", x -> x.days(99));
        undone("ear", x -> x.ear(5, 9));
        undone("an ear that it has", x -> x.ear(0, 0));
        undone("blank, and who has found", x -> x.blank(2, NONE));
        undone("a blank that it has", x -> x.blank(2, 9));
        undone("perform of six deeds", x -> x.perform(0));
        undone("perform of one deed", x -> x.perform(1));
        undone("a year of forty", x -> x.year(20261118, 40));
        undone("a year of one", x -> x.year(0, 1));
        BlankNote x = told(FULL);
        due("one that did some", x.ear(0, 0), 0);
        tray(x, 0, 1, NONE, 300);
        due("perform of one that can't be", x.numbers(1, 1, 1), 0);
        due("perform", x.perform(1), 0);
        due("did none", x.count(7), 1);
        x.numbers(1, 1, 0);
        due("perform of none", x.perform(1), 0);
        due("did none", x.count(7), 1);
        due("refused calls", x.go(0, 0) + x.ear(0, 10) + x.blank(0, 10) + x.days(0) + x.year(0, 0), -12 - 11 - 11 - 3 - 3);
        due("did none", x.count(7), 1);
        due("questions", x.judge(0, 2) + x.finds(0) + x.all() > 0 ? 1 : 0, 1);
        due("did none", x.count(7), 1);
        x = new BlankNote();
        due("a year of one that can't be", x.year(1, 1), 0);
        due("did none", x.count(7), 0);
        due("a year of one day", x.year(0, 1), 1);
        due("did one", x.count(7), 1);
    }

    /** A call that does some is undone as a whole, behind other ones and ahead of other ones. */
    private static void undone(String what, Call call) {
        BlankNote x = told(FULL);
        tray(x, 0, 1, 1, 107, 203, -1, 21, -1, 300, -1);
        tray(x, 1, 1, 140, 300);
        x.go(1, 0);
        x.ear(3, 4);
        x.days(3);
        x.blank(5, 2);
        List<Long> before = people(x);
        call.of(x);
        List<Long> behind = people(x);
        due(what + ": count(7)", x.count(7), 5);
        x.ear(4, 7);
        due("undo(1)", x.undo(1), 5);
        same(what + ", one call behind it undone", people(x), behind);
        due("undo(1)", x.undo(1), 4);
        same(what + ", undone", people(x), before);
        due("undo(4)", x.undo(4), 0);
        same(what + ", and all ahead of it", people(x), people(told(FULL)));
    }

    // ---- promise 17

    /** What is due for a deed in the full valley, by its number; 0: it can be. */
    private static int why(long v, int notes) {
        if (v == NONE) return 0;
        if (v < 0 || v > 299) return 1;
        int p = (int) (v % 100) / 10;
        int n = (int) (v % 10);
        if (p > 5) return 1;
        if (v >= 100) return v >= 200 && n >= notes ? 1 : 0;
        if (n > 5) return 1;
        return p == n ? 2 : 0;
    }

    private static void deeds() {
        sentence(17, "DEEDS in a TRAY: 0 to 99: PERSON v by 10 GOES to PLACE v modulo 10; 100 to 199: PERSON (v - 100) by 10 has EAR v modulo 10; 200 to 299: PERSON (v - 200) by 10 has BLANK v modulo 10; NONE: a DAY; others: 1.");
        BlankNote ten = null;
        BlankNote nine = null;
        for (int v = -5; v < 310; v++) {
            if ((v + 5) % 100 == 0) {
                ten = told(FULL);
                nine = told(FULL.replace("9", "8").replace("10", "9"));
                ten.numbers(0, 2, 1);
                nine.numbers(0, 2, 1);
            }
            judged(ten, v, why(v, 10));
            judged(nine, v, why(v, 9));
        }
        ten = told(FULL);
        ten.numbers(0, 3, 1);
        for (long v : new long[] {1L << 32, (1L << 32) - 1, (1L << 32) + 1, -(1L << 32), -(1L << 32) - 1, Long.MAX_VALUE, Long.MIN_VALUE, MAX, MIN}) judged(ten, v, 1);
        for (int v : new int[] {1, 50, 109, 159, 200, 259}) {
            BlankNote x = told(FULL);
            tray(x, 1, 1, v);
            due("perform " + v, x.perform(1), 1);
            int p = v % 100 / 10;
            due("person(" + p + ") by " + v, x.person(p, v < 100 ? 0 : v < 200 ? 2 : 1), v % 10);
            due("who has found", x.count(4), v == 259 ? 4 : 36);
        }
    }

    private static void judged(BlankNote x, long v, int why) {
        x.write(0, 0, v);
        due("judge " + v + ", 0", x.judge(0, 0), why == 0 ? NONE : 0);
        due("judge " + v + ", 1", x.judge(0, 1), why);
    }

    private static void judge() {
        sentence(17, "DEEDS, judged as if done, what 0: the first place that can't be (NONE), 1: why (0), 2: who has FOUND then, as bits, 3: PLACES where somebody is then, as bits.");
        BlankNote x = told(FULL);
        x.numbers(0, 1, 40);
        for (int i = 0; i < 40; i++) x.write(0, i, NONE);
        answers(x, 0, NONE, 0, 1 + 2 + 4 + 16 + 32, 63);
        x.write(0, 39, 0);
        answers(x, 0, 39, 2, 1 + 2 + 4 + 16 + 32, 63);
        x.write(0, 1, 60);
        answers(x, 0, 1, 1, 1 + 4 + 16 + 32, 63);
        x.write(0, 0, 56);
        answers(x, 0, 0, 1, 36, 63);
        x.numbers(1, 0, 0);
        answers(x, 1, NONE, 0, 36, 63);
        tray(x, 2, 2, 5, 15, 25, 35, 45);
        answers(x, 2, NONE, 0, 36, 32);
        tray(x, 2, 2, 5, 50, 5);
        answers(x, 2, 2, 2, 36, 63);
        tray(x, 2, 2, 1, 0, 0);
        answers(x, 2, 2, 2, 36, 63);
        tray(x, 2, 2, 220, -1, 209, -1);
        answers(x, 2, NONE, 0, 2 + 16 + 32, 63);
        due("nothing was done", x.count(7) + x.count(5), 0);
        for (int p = 0; p < 6; p++) due("place of " + p, x.person(p, 0), p);
        x = new BlankNote();
        x.numbers(0, 0, 2);
        x.write(0, 0, NONE);
        answers(x, 0, 1, 1, 0, 0);
        sentence(17, "-2: the TRAY, what; -6.");
        for (int t : new int[] {-1, 4, MIN, MAX}) for (int w : new int[] {0, 3, -1, 4}) due("judge(" + t + ", " + w + ")", x.judge(t, w), -2);
        for (int w : new int[] {-1, 4, MIN, MAX}) for (int t = 0; t < 4; t++) due("judge(" + t + ", " + w + ")", x.judge(t, w), -2);
        for (int t = 1; t < 4; t++) for (int w = 0; w < 4; w++) due("judge(" + t + ", " + w + ")", x.judge(t, w), -6);
    }

    private static void answers(BlankNote x, int tray, int... want) {
        for (int w = 0; w < 4; w++) due("judge(" + tray + ", " + w + ")", x.judge(tray, w), want[w]);
    }

    // ---- promise 18

    private static void perform() {
        sentence(18, "They are done, till one can't be: how many. -2; -6.");
        BlankNote x = told(FULL);
        for (int t = 0; t < 4; t++) due("perform(" + t + ")", x.perform(t), -6);
        for (int t : new int[] {-1, 4, MIN, MAX}) due("perform(" + t + ")", x.perform(t), -2);
        x.numbers(3, 0, 0);
        due("none", x.perform(3), 0);
        x.numbers(3, 0, 40);
        for (int i = 0; i < 40; i++) x.write(3, i, NONE);
        due("all forty", x.perform(3), 40);
        due("day", x.count(5), 40);
        x.write(3, 39, -2);
        due("all but the last", x.perform(3), 39);
        due("day", x.count(5), 79);
        x.write(3, 0, 0);
        due("the first can't be", x.perform(3), 0);
        due("day", x.count(5), 79);
        due("count(7)", x.count(7), 2);
        x = told(FULL);
        tray(x, 0, 1, 5, 0, 105, 7, 109);
        due("till one can't be", x.perform(0), 3);
        due("place", x.person(0, 0), 0);
        due("ear: not 9", x.person(0, 2), 5);
        tray(x, 0, 1, 4, 55, 109);
        due("till there is no way", x.perform(0), 1);
        due("place", x.person(0, 0), 4);
        due("again: it is there", x.perform(0), 0);
    }

    // ---- promise 19

    private static long drawn = 0;

    private static int draw() {
        drawn = (drawn * 1103515245L + 12345L) % (1L << 32);
        return (int) (drawn >> 16);
    }

    /** The same draws, each as a deed in a tray of one. */
    private static int byTrays(BlankNote x, int seed, int times) {
        drawn = seed < 0 ? seed + (1L << 32) : seed;
        x.numbers(0, 1, 1);
        int done = 0;
        for (int i = 0; i < times; i++) {
            int kind = draw() % 5;
            int deed = NONE;
            if (kind == 1 || kind == 2) deed = draw() % 6 * 10 + draw() % 6;
            if (kind == 3) deed = 100 + draw() % 6 * 10 + draw() % 10;
            if (kind == 4) deed = 200 + draw() % 6 * 10 + draw() % 10;
            x.write(0, 0, deed);
            done += x.perform(0);
        }
        return done;
    }

    private static void year() {
        sentence(19, "A YEAR by a SEED (x, an int; a DRAW: x becomes 1103515245 x + 12345, it is x >>> 16): so many times (1 to 40): DRAW modulo 5: 0 a DAY; 1, 2 PERSON DRAW modulo 6 GOES to PLACE DRAW modulo 6; 3 PERSON DRAW modulo 6 has EAR DRAW modulo 10; 4 PERSON DRAW modulo 6 has BLANK DRAW modulo 10; as in a TRAY, if it can be.");
        String[] texts = {FULL, CHAIN, "scale 2;place 0;person at 0;"};
        int[] seeds = {0, 1, 2, 3, -1, -2, MIN, MIN + 1, MAX, MAX - 1, 12345, 20261118, -987654321};
        for (String text : texts) {
            for (int seed : seeds) {
                for (int times : new int[] {1, 2, 3, 39, 40}) {
                    BlankNote x = told(text);
                    BlankNote y = told(text);
                    due("year(" + seed + ", " + times + ")", x.year(seed, times), byTrays(y, seed, times));
                    same("year(" + seed + ", " + times + ")", people(x), people(y));
                }
            }
        }
        due("twice in a row, the seed tells it anew", twice(told(FULL)), 1);
        sentence(19, "A YEAR: how many could be. -3: how many times.");
        BlankNote x = new BlankNote();
        for (int times : new int[] {0, -1, 41, 42, MIN, MAX}) due("year(0, " + times + ")", x.year(0, times), -3);
        due("day", x.count(5), 0);
        due("a day", x.year(0, 1), 1);
        due("none could be", x.year(1, 1), 0);
        due("only days can be without people", x.year(5, 40), x.count(5) - 1);
        x = told(FULL);
        int could = x.year(-1, 40);
        due("could be: not all", could > 20 && could < 40 ? 1 : 0, 1);
    }

    private static int twice(BlankNote x) {
        x.year(77, 40);
        List<Long> once = people(x);
        x.undo(1);
        x.year(77, 40);
        return people(x).equals(once) ? 1 : 0;
    }

    public static void main(String[] args) {
        go();
        days();
        ear();
        blank();
        undo();
        deeds();
        judge();
        perform();
        year();
        end();
    }
}
