/**
 * Each refused call of promises 2 to 45: the code that it answers, and that it changes nothing; and that
 * questions change nothing either.
 */
public final class RefusedTest extends Bench {

    private static final int[] NO_TRAYS = {-1, 4, MIN, MAX};
    private static final int[] NO_PEOPLE = {-1, 3, 6, MIN, MAX};
    private static final int[] NO_FOLK_SETS = {8, 15, 64, -1, MIN, MAX};
    private static final int[] NO_NOTE_SETS = {16, 31, 1024, -1, MIN, MAX};

    /**
     * The chain in the midst of things: five calls can be undone, trays 0 to 2 of three sorts (3 is missing), image 0 of
     * another valley (1 isn't made), another text on the tape, a fault behind it.
     */
    private static final Maker MIDST = () -> {
        BlankNote x = new BlankNote();
        tell(x, "scale 7;tune 6 5;place 0;person at 0 blank 3;goes : from > to;");
        x.days(2);
        x.image(0);
        tell(x, CHAIN);
        tell(x, "scale 2;place 9;");
        x.go(0, 1);
        x.days(2);
        x.ear(2, 8);
        x.blank(1, 0);
        x.numbers(0, 1, 4);
        x.write(0, 0, 2);
        x.write(0, 1, NONE);
        x.write(0, 2, 117);
        x.write(0, 3, 300);
        x.perform(0);
        x.write(0, 0, 1);
        x.numbers(1, 0, 20);
        for (int i = 0; i < 20; i++) x.write(1, i, i % 3);
        x.numbers(2, 3, 21);
        x.write(2, 20, 99);
        feed(x, "scale 5;tune 4 3;goes : to = 1;");
        return x;
    };

    /** The same with a tape that is full. */
    private static final Maker FULL_TAPE = () -> {
        BlankNote x = MIDST.make();
        for (int i = x.count(8); i < 900; i += 20) feed(x, "place 0;place 1;    ");
        return x;
    };

    /** Ten calls that can be undone. */
    private static final Maker TEN = () -> {
        BlankNote x = MIDST.make();
        for (int i = 0; i < 12; i++) x.ear(i % 3, i % 10);
        return x;
    };

    private static final Maker NEW = BlankNote::new;

    private static void valleyCalls() {
        sentence(2, "-5: it would have more than 900.");
        refused(FULL_TAPE, "feed", -5, x -> x.feed(0, 0, 0, 0, 0));
        refused(FULL_TAPE, "feed", -5, x -> x.feed(-1, MIN, MAX, 1, 0x20202020));
        sentence(3, "-3: n is below 0 or above what there is (THE TAPE stays)");
        for (int n : new int[] {-1, MIN, 41, 900, MAX}) refused(MIDST, "valley(" + n + ")", -3, x -> x.valley(n));
        for (int n : new int[] {-1, MIN, 901, MAX}) refused(FULL_TAPE, "valley(" + n + ")", -3, x -> x.valley(n));
        for (int n : new int[] {-1, 1, MAX}) refused(NEW, "valley(" + n + ")", -3, x -> x.valley(n));
        sentence(4, "NONE for others.");
        for (int w : new int[] {-1, 2, MIN, MAX}) refused(MIDST, "fault(" + w + ")", NONE, x -> x.fault(w));
        sentence(5, "4: NOTES it HEARS, as bits. -2.");
        for (int p : NO_PEOPLE) for (int w : new int[] {0, 4, -1}) refused(MIDST, "person(" + p + ", " + w + ")", -2, x -> x.person(p, w));
        for (int w : new int[] {-1, 5, MIN, MAX}) refused(MIDST, "person(0, " + w + ")", -2, x -> x.person(0, w));
        sentence(6, "-2: the PLACE; -3: the DAY.");
        for (int k : new int[] {-1, 3, MIN, MAX}) for (int d : new int[] {0, -1}) refused(MIDST, "sounds(" + k + ", " + d + ")", -2, x -> x.sounds(k, d));
        for (int d : new int[] {-1, MIN}) refused(MIDST, "sounds(0, " + d + ")", -3, x -> x.sounds(0, d));
        sentence(7, "2: in how many DAYS its SOUNDS come round. -2.");
        for (int k : new int[] {-1, 3, MIN, MAX}) for (int w : new int[] {0, 2, 3}) refused(MIDST, "place(" + k + ", " + w + ")", -2, x -> x.place(k, w));
        for (int w : new int[] {-1, 3, MIN, MAX}) refused(MIDST, "place(2, " + w + ")", -2, x -> x.place(2, w));
        sentence(8, "NONE: not so many; -2; -3: i is below 0.");
        for (int t : new int[] {-1, 2, MIN, MAX}) for (int i : new int[] {0, -1, MAX}) refused(MIDST, "note(" + t + ", " + i + ")", -2, x -> x.note(t, i));
        for (int i : new int[] {-1, MIN}) refused(MIDST, "note(1, " + i + ")", -3, x -> x.note(1, i));
        sentence(9, "-2: the TUNE, the PERSON.");
        for (int t : new int[] {-1, 2, MIN, MAX}) refused(MIDST, "steps(" + t + ", 0)", -2, x -> x.steps(t, 0));
        for (int p : NO_PEOPLE) refused(MIDST, "steps(0, " + p + ")", -2, x -> x.steps(0, p));
        sentence(10, "-3: others are in the set.");
        for (int s : NO_FOLK_SETS) refused(MIDST, "whole(" + s + ")", -3, x -> x.whole(s));
        sentence(11, "PEOPLE who don't HEAR a NOTE, as bits. -2.");
        for (int n : new int[] {-1, 4, 10, MIN, MAX}) refused(MIDST, "owners(" + n + ")", -2, x -> x.owners(n));
    }

    private static void deedCalls() {
        sentence(12, "-11, -12.");
        for (int p : NO_PEOPLE) for (int k : new int[] {0, 3}) refused(MIDST, "go(" + p + ", " + k + ")", -11, x -> x.go(p, k));
        for (int k : new int[] {-1, 3, MIN, MAX}) refused(MIDST, "go(0, " + k + ")", -11, x -> x.go(0, k));
        refused(MIDST, "go(0, 2): it is there", -12, x -> x.go(0, 2));
        refused(MIDST, "go(0, 0): no way", -12, x -> x.go(0, 0));
        refused(TEN, "go(0, 0): no way", -12, x -> x.go(0, 0));
        sentence(12, "-11, -12 why not (1, 2);");
        refused(NEW, "go(0, 0)", -11, x -> x.go(0, 0));
        sentence(13, "who has FOUND in these, as bits. -3.");
        for (int n : new int[] {0, -1, 100, MIN, MAX}) refused(MIDST, "days(" + n + ")", -3, x -> x.days(n));
        refused(TEN, "days(100)", -3, x -> x.days(100));
        sentence(14, "what it was. -11.");
        for (int p : NO_PEOPLE) for (int n : new int[] {0, 10}) refused(MIDST, "ear(" + p + ", " + n + ")", -11, x -> x.ear(p, n));
        for (int n : new int[] {-1, 10, MIN, MAX}) refused(TEN, "ear(2, " + n + ")", -11, x -> x.ear(2, n));
        sentence(15, "what it was (NONE). -11.");
        for (int p : NO_PEOPLE) for (int n : new int[] {0, NONE, 4}) refused(MIDST, "blank(" + p + ", " + n + ")", -11, x -> x.blank(p, n));
        for (int n : new int[] {-2, 4, MIN, MAX}) refused(TEN, "blank(0, " + n + ")", -11, x -> x.blank(0, n));
        sentence(16, "-3: n, more than can be.");
        for (int n : new int[] {0, -1, 6, 10, 11, MIN, MAX}) refused(MIDST, "undo(" + n + ")", -3, x -> x.undo(n));
        for (int n : new int[] {0, -1, 11, MIN, MAX}) refused(TEN, "undo(" + n + ")", -3, x -> x.undo(n));
        refused(NEW, "undo(1)", -3, x -> x.undo(1));
        sentence(17, "-2: the TRAY, what; -6.");
        for (int t : NO_TRAYS) for (int w : new int[] {0, 4}) refused(MIDST, "judge(" + t + ", " + w + ")", -2, x -> x.judge(t, w));
        for (int t : new int[] {0, 3}) for (int w : new int[] {-1, 4, MIN, MAX}) refused(MIDST, "judge(" + t + ", " + w + ")", -2, x -> x.judge(t, w));
        for (int w = 0; w < 4; w++) judgeMissing(w);
        sentence(18, "how many. -2; -6.");
        for (int t : NO_TRAYS) refused(MIDST, "perform(" + t + ")", -2, x -> x.perform(t));
        refused(TEN, "perform(3)", -6, x -> x.perform(3));
        sentence(19, "-3: how many times.");
        for (int n : new int[] {0, -1, 41, MIN, MAX}) refused(MIDST, "year(0, " + n + ")", -3, x -> x.year(0, n));
        refused(TEN, "year(0, 41)", -3, x -> x.year(0, 41));
    }

    private static void judgeMissing(int w) {
        refused(MIDST, "judge(3, " + w + ")", -6, x -> x.judge(3, w));
    }

    private static void trialCalls() {
        sentence(20, "-2: the TRAY, the PERSON; -6; -4: not 1 to 20 numbers; -3: one is none such.");
        answersRefused("blanks", true);
        sentence(21, "NONE: there are none; as blanks().");
        answersRefused("attempt", false);
        sentence(22, "how many NOTES at worst. -2.");
        for (int p : NO_PEOPLE) refused(MIDST, "knowing(" + p + ")", -2, x -> x.knowing(p));
        sentence(23, "NONE: none is needed; -2.");
        for (int p : NO_PEOPLE) refused(MIDST, "begins(" + p + ")", -2, x -> x.begins(p));
        sentence(24, "the set, as bits. -2.");
        for (int p : NO_PEOPLE) refused(MIDST, "atOnce(" + p + ")", -2, x -> x.atOnce(p));
    }

    private static long answer(BlankNote x, boolean first, int tray, int p) {
        return first ? x.blanks(tray, p) : x.attempt(tray, p);
    }

    private static void answersRefused(String call, boolean first) {
        for (int t : NO_TRAYS) refused(MIDST, call + "(" + t + ", 0)", -2, x -> answer(x, first, t, 0));
        for (int p : NO_PEOPLE) for (int t : new int[] {0, 2, 3}) refused(MIDST, call + "(" + t + ", " + p + ")", -2, x -> answer(x, first, t, p));
        refused(MIDST, call + "(3, 0)", -6, x -> answer(x, first, 3, 0));
        refused(MIDST, call + "(2, 0)", -4, x -> answer(x, first, 2, 0));
        refused(MIDST, call + "(0, 0)", -3, x -> answer(x, first, 0, 0));
    }

    private static void togetherCalls() {
        sentence(25, "-2: what; -3: others are in the set, m.");
        for (int w : new int[] {-1, 2, MIN, MAX}) for (int m : new int[] {0, 1}) refused(MIDST, "choir(-1, " + m + ", " + w + ")", -2, x -> x.choir(-1, m, w));
        for (int s : NO_NOTE_SETS) refused(MIDST, "choir(" + s + ", 1, 0)", -3, x -> x.choir(s, 1, 0));
        for (int m : new int[] {0, -1, 7, MIN, MAX}) refused(MIDST, "choir(15, " + m + ", 1)", -3, x -> x.choir(15, m, 1));
        sentence(26, "-3: the set, k is below 0.");
        for (int s : NO_NOTE_SETS) for (int k : new int[] {0, 3}) refused(MIDST, "row(" + s + ", " + k + ")", -3, x -> x.row(s, k));
        for (int k : new int[] {-1, MIN}) refused(MIDST, "row(15, " + k + ")", -3, x -> x.row(15, k));
        refused(NEW, "row(0, -1)", -3, x -> x.row(0, -1));
        sentence(27, "(1 without PEOPLE). -3.");
        for (int s : NO_NOTE_SETS) refused(MIDST, "rows(" + s + ")", -3, x -> x.rows(s));
        sentence(28, "-2: what (10 and a PERSON); -3: the set.");
        for (int w : new int[] {-1, 1, 9, 13, 16, MIN, MAX}) for (int s : new int[] {0, 16}) refused(MIDST, "pairs(" + s + ", " + w + ")", -2, x -> x.pairs(s, w));
        for (int s : NO_NOTE_SETS) for (int w : new int[] {0, 12}) refused(MIDST, "pairs(" + s + ", " + w + ")", -3, x -> x.pairs(s, w));
    }

    private static void tuneCalls() {
        sentence(29, "(0: they HEAR none all). -3: the set.");
        for (int s : NO_FOLK_SETS) refused(MIDST, "longest(" + s + ")", -3, x -> x.longest(s));
        sentence(30, "NONE: not so many; -3: the set, i is below 0.");
        for (int s : NO_FOLK_SETS) for (int i : new int[] {0, 99}) refused(MIDST, "longNote(" + s + ", " + i + ")", -3, x -> x.longNote(s, i));
        for (int i : new int[] {-1, MIN}) refused(MIDST, "longNote(0, " + i + ")", -3, x -> x.longNote(0, i));
        sentence(31, "NONE: there is none; -3: a set.");
        for (int s : NO_FOLK_SETS) refused(MIDST, "through(" + s + ", 3)", -3, x -> x.through(s, 3));
        for (int s : NO_NOTE_SETS) refused(MIDST, "through(1, " + s + ")", -3, x -> x.through(1, s));
        sentence(32, "NONE: not so many, there is none; -3: a set, i is below 0.");
        for (int s : NO_FOLK_SETS) refused(MIDST, "throughNote(" + s + ", 3, 9)", -3, x -> x.throughNote(s, 3, 9));
        for (int s : NO_NOTE_SETS) refused(MIDST, "throughNote(1, " + s + ", 9)", -3, x -> x.throughNote(1, s, 9));
        for (int i : new int[] {-1, MIN}) refused(MIDST, "throughNote(0, 15, " + i + ")", -3, x -> x.throughNote(0, 15, i));
        sentence(33, "-3: the set, n.");
        for (int s : NO_FOLK_SETS) refused(MIDST, "tunes(" + s + ", 1)", -3, x -> x.tunes(s, 1));
        for (int n : new int[] {0, -1, 16, MIN, MAX}) refused(MIDST, "tunes(0, " + n + ")", -3, x -> x.tunes(0, n));
    }

    private static void findingCalls() {
        sentence(34, "NONE: never; -2.");
        for (int p : NO_PEOPLE) refused(MIDST, "finds(" + p + ")", -2, x -> x.finds(p));
        sentence(35, "NONE: not so many, never; -2; -3: i is below 0.");
        for (int p : NO_PEOPLE) for (int i : new int[] {0, -1}) refused(MIDST, "route(" + p + ", " + i + ")", -2, x -> x.route(p, i));
        for (int i : new int[] {-1, MIN}) for (int p = 0; p < 3; p++) routeRefused(p, i);
        sentence(37, "(FOUND: all). -2; -3.");
        for (int p : NO_PEOPLE) for (int n : new int[] {1, 0}) refused(MIDST, "near(" + p + ", " + n + ")", -2, x -> x.near(p, n));
        for (int n : new int[] {0, -1, 100, MIN, MAX}) refused(MIDST, "near(0, " + n + ")", -3, x -> x.near(0, n));
        sentence(38, "-2: the PERSON, what; -3: n.");
        for (int p : NO_PEOPLE) for (int n : new int[] {0, 7}) refused(MIDST, "chance(" + p + ", " + n + ", 0)", -2, x -> x.chance(p, n, 0));
        for (int w : new int[] {-1, 2, MIN, MAX}) for (int n : new int[] {6, -1}) refused(MIDST, "chance(0, " + n + ", " + w + ")", -2, x -> x.chance(0, n, w));
        for (int n : new int[] {-1, 7, MIN, MAX}) refused(MIDST, "chance(0, " + n + ", 1)", -3, x -> x.chance(0, n, 1));
        sentence(39, "NONE: nobody; -3.");
        for (int n : new int[] {-1, 7, MIN, MAX}) refused(MIDST, "likeliest(" + n + ")", -3, x -> x.likeliest(n));
        for (int n : new int[] {-1, 7}) refused(NEW, "likeliest(" + n + ")", -3, x -> x.likeliest(n));
    }

    private static void routeRefused(int p, int i) {
        refused(MIDST, "route(" + p + ", " + i + ")", -3, x -> x.route(p, i));
    }

    private static void trayCalls() {
        sentence(40, "-2: no such TRAY, sort; -3, and the TRAY stays: n is below 0 or above 40.");
        for (int t : NO_TRAYS) for (int n : new int[] {0, 41}) refused(MIDST, "numbers(" + t + ", 0, " + n + ")", -2, x -> x.numbers(t, 0, n));
        for (int s : new int[] {-1, 4, MIN, MAX}) for (int n : new int[] {0, -1}) refused(MIDST, "numbers(0, " + s + ", " + n + ")", -2, x -> x.numbers(0, s, n));
        for (int n : new int[] {-1, 41, MIN, MAX}) for (int t : new int[] {0, 3}) refused(MIDST, "numbers(" + t + ", 3, " + n + ")", -3, x -> x.numbers(t, 3, n));
        sentence(41, "-2: no such TRAY; -6; -7.");
        for (int t : NO_TRAYS) for (int i : new int[] {0, -1}) refused(MIDST, "write(" + t + ", " + i + ", 5)", -2, x -> x.write(t, i, 5));
        for (int i : new int[] {0, -1, 40}) refused(MIDST, "write(3, " + i + ", 5)", -6, x -> x.write(3, i, 5));
        for (int i : new int[] {-1, 4, 40, MIN, MAX}) refused(MIDST, "write(0, " + i + ", 5)", -7, x -> x.write(0, i, 5));
        for (int i : new int[] {-1, 20, 39}) refused(MIDST, "write(1, " + i + ", 5)", -7, x -> x.write(1, i, 5));
        sentence(42, "-2: the TRAY; -6; -3: the set.");
        for (int t : NO_TRAYS) for (int s : new int[] {0, 8}) refused(MIDST, "lists(" + t + ", " + s + ")", -2, x -> x.lists(t, s));
        for (int s : new int[] {0, 8}) refused(MIDST, "lists(3, " + s + ")", -6, x -> x.lists(3, s));
        for (int s : NO_FOLK_SETS) refused(MIDST, "lists(0, " + s + ")", -3, x -> x.lists(0, s));
        sentence(43, "An IMAGE is made: 0. -2.");
        for (int i : new int[] {-1, 2, MIN, MAX}) refused(MIDST, "image(" + i + ")", -2, x -> x.image(i));
        sentence(44, "-2; -5: none was made.");
        for (int i : new int[] {-1, 2, MIN, MAX}) refused(MIDST, "restore(" + i + ")", -2, x -> x.restore(i));
        refused(MIDST, "restore(1)", -5, x -> x.restore(1));
        for (int i = 0; i < 2; i++) restoreRefused(i);
        sentence(45, "NONE for others.");
        for (int w : new int[] {-1, 10, MIN, MAX}) refused(MIDST, "count(" + w + ")", NONE, x -> x.count(w));
    }

    private static void restoreRefused(int i) {
        refused(NEW, "restore(" + i + ")", -5, x -> x.restore(i));
    }

    /** Of several codes, that which the call tells first; each of them ahead of NONE. */
    private static void order() {
        sentence(45, "Refused calls answer by a code and change nothing: -2 there is none such; -3 a number can't be; -4 too many; -5 it can't be now; -6 a TRAY is MISSING; -7 it has no such number; -11, -12 why not (1, 2); -30 less the FAULT: a text. (Of several that which the call tells first; all these ahead of NONE.)");
        BlankNote x = MIDST.make();
        due("sounds: the place ahead of the day", x.sounds(9, -1), -2);
        due("note: the tune ahead of i", x.note(9, -1), -2);
        due("note: i below 0 ahead of not so many", x.note(0, -1), -3);
        due("go: the place ahead of no way", x.go(0, 9), -11);
        due("judge: what ahead of a missing tray", x.judge(3, 4), -2);
        due("blanks: the person ahead of a missing tray", x.blanks(3, 9), -2);
        due("blanks: the person ahead of how many", x.blanks(2, 9), -2);
        due("blanks: how many ahead of none such", x.blanks(2, 0), -4);
        due("attempt: how many ahead of none such", x.attempt(2, 0), -4);
        due("attempt: none such ahead of NONE", x.attempt(0, 0), -3);
        due("choir: what ahead of the set and m", x.choir(99, 9, 9), -2);
        due("choir: m ahead of none", x.choir(15, 7, 0), -3);
        due("row: k below 0 ahead of none", x.row(15, -1), -3);
        due("pairs: what ahead of the set", x.pairs(99, 9), -2);
        due("throughNote: i below 0 ahead of none", x.throughNote(2, 1, -1), -3);
        due("throughNote: the set ahead of none", x.throughNote(9, 1, 0), -3);
        due("route: the person ahead of i", x.route(9, -1), -2);
        due("route: i below 0 ahead of never", x.route(2, -1), -3);
        due("near: the person ahead of n", x.near(9, 0), -2);
        due("chance: the person, what ahead of n", x.chance(9, 9, 9), -2);
        due("chance: what ahead of n", x.chance(0, 9, 9), -2);
        due("numbers: the tray, sort ahead of n", x.numbers(9, 9, 99), -2);
        due("numbers: sort ahead of n", x.numbers(0, 9, 99), -2);
        due("write: the tray ahead of the number", x.write(9, 99, 0), -2);
        due("write: missing ahead of the number", x.write(3, 99, 0), -6);
        due("lists: missing ahead of the set", x.lists(3, 99), -6);
        due("lists: the tray ahead of the set", x.lists(9, 99), -2);
        due("likeliest: n ahead of nobody", new BlankNote().likeliest(7), -3);
        due("row: k below 0 ahead of nobody", new BlankNote().row(0, -1), -3);
        due("longNote: i below 0 ahead of not so many", new BlankNote().longNote(0, -1), -3);
    }

    /** Questions leave all as it was. */
    private static void questions() {
        sentence(17, "DEEDS, judged as if done,");
        for (int w = 0; w < 4; w++) judgeAsks(w);
        Call[] asked = {x -> x.fault(0), x -> x.person(1, 4), x -> x.sounds(1, 5), x -> x.place(1, 1), x -> x.note(0, 1), x -> x.steps(0, 1), x -> x.whole(3),
            x -> x.owners(2), x -> x.blanks(1, 1), x -> x.attempt(1, 1), x -> x.knowing(0), x -> x.begins(0), x -> x.atOnce(0), x -> x.choir(15, 2, 1), x -> x.row(15, 1),
            x -> x.rows(15), x -> x.pairs(15, 11), x -> x.longest(1), x -> x.longNote(1, 1), x -> x.through(4, 9), x -> x.throughNote(4, 9, 1), x -> x.tunes(3, 9),
            x -> x.finds(1), x -> x.route(1, 0), x -> x.all(), x -> x.near(1, 9), x -> x.chance(1, 6, 0), x -> x.likeliest(6), x -> x.count(4)};
        for (int i = 0; i < asked.length; i++) changesNothing(MIDST, "question " + i, asked[i]);
    }

    private static void judgeAsks(int w) {
        changesNothing(MIDST, "judge(0, " + w + ")", x -> x.judge(0, w));
    }

    public static void main(String[] args) {
        valleyCalls();
        deedCalls();
        trialCalls();
        togetherCalls();
        tuneCalls();
        findingCalls();
        trayCalls();
        order();
        questions();
        end();
    }
}
