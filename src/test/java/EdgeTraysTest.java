import java.util.List;

/** The edges of promises 40, 41 and 43 to 45: trays, images, counts. */
public final class EdgeTraysTest extends Bench {

    // ---- promise 40

    /** Each number is 0: as a deed there is no way, person 0 being at place 0; days come ahead of it. */
    private static void allZero(BlankNote x, int tray, int n) {
        for (int i = 0; i < n; i++) {
            due("number " + i + " of " + n, x.judge(tray, 0), i);
            due("why", x.judge(tray, 1), 2);
            x.write(tray, i, NONE);
        }
        due("no more of them", x.judge(tray, 0), NONE);
        due("write behind", x.write(tray, n, 1), -7);
    }

    private static void numbers() {
        sentence(40, "A TRAY has n numbers of a sort, all 0 (in place of another one): 0.");
        for (int n : new int[] {0, 1, 39, 40}) {
            BlankNote x = told(FULL);
            due("numbers(0, 1, " + n + ")", x.numbers(0, 1, n), 0);
            allZero(x, 0, n);
            due("anew", x.numbers(0, 2, n), 0);
            allZero(x, 0, n);
        }
        BlankNote x = told(FULL);
        x.numbers(1, 3, 40);
        x.write(1, 39, 7);
        x.numbers(1, 3, 2);
        due("fewer", x.write(1, 2, 7), -7);
        x.numbers(1, 3, 40);
        x.write(1, 0, NONE);
        allZeroBehind(x);
        sentence(40, "TRAYS 0 to 3 are MISSING at first, or have 0 to 40 numbers of 8 bits (sort 0), 16 (1), 32 (2), 64 (3).");
        x = new BlankNote();
        for (int t = 0; t < 4; t++) due("missing " + t, x.write(t, 0, 1), -6);
        long[] cut = {0xef, 0xcdef, 0x89abcdefL, 0x0123456789abcdefL};
        long[] as = {(byte) 0xef, (short) 0xcdef, 0x89abcdef, 0x0123456789abcdefL};
        for (int t = 0; t < 4; t++) {
            due("numbers(" + t + ", " + t + ", 1)", x.numbers(t, t, 1), 0);
            due("cut", x.write(t, 0, 0x0123456789abcdefL), as[t]);
            due("as it is", x.write(t, 0, cut[t]), as[t]);
            for (int u = t + 1; u < 4; u++) due("missing " + u, x.write(u, 0, 1), -6);
        }
        sentence(40, "-2: no such TRAY, sort; -3, and the TRAY stays: n is below 0 or above 40.");
        for (int t : new int[] {-1, 4, MIN, MAX}) for (int n : new int[] {0, 40, 41, -1}) due("numbers(" + t + ", 0, " + n + ")", x.numbers(t, 0, n), -2);
        for (int s : new int[] {-1, 4, MIN, MAX}) for (int n : new int[] {0, 40, 41, -1}) due("numbers(0, " + s + ", " + n + ")", x.numbers(0, s, n), -2);
        for (int n : new int[] {-1, 41, 42, MIN, MAX}) {
            x = told(FULL);
            due("numbers(0, 0, " + n + ") of a missing one", x.numbers(0, 0, n), -3);
            due("it is missing still", x.perform(0), -6);
            tray(x, 0, 2, NONE, 100000, NONE);
            due("numbers(0, 0, " + n + ")", x.numbers(0, 0, n), -3);
            due("its numbers", x.judge(0, 0), 1);
            due("its sort", x.write(0, 1, 100001), 100001);
            due("how many", x.write(0, 2, NONE), NONE);
            due("how many", x.write(0, 3, NONE), -7);
        }
    }

    private static void allZeroBehind(BlankNote x) {
        for (int i = 1; i < 40; i++) {
            due("number " + i, x.judge(1, 0), i);
            due("why", x.judge(1, 1), 2);
            x.write(1, i, NONE);
        }
    }

    // ---- promise 41

    private static void written(BlankNote x, int tray, long v, long want) {
        due("write " + v, x.write(tray, 0, v), want);
    }

    private static void write() {
        sentence(41, "Number i of a TRAY is v, cut to its sort: as it is there. -2: no such TRAY; -6; -7.");
        BlankNote x = new BlankNote();
        for (int s = 0; s < 4; s++) x.numbers(s, s, 1);
        for (int s = 0; s < 3; s++) {
            long half = 1L << (8 << s) - 1;
            written(x, s, half - 1, half - 1);
            written(x, s, half, -half);
            written(x, s, half + 1, -half + 1);
            written(x, s, 2 * half - 1, -1);
            written(x, s, 2 * half, 0);
            written(x, s, 2 * half + 1, 1);
            written(x, s, -half, -half);
            written(x, s, -half - 1, half - 1);
            written(x, s, -2 * half, 0);
            written(x, s, Long.MAX_VALUE, -1);
            written(x, s, Long.MIN_VALUE, 0);
        }
        for (long v : new long[] {0, 1, -1, MAX, MIN, 1L << 32, Long.MAX_VALUE, Long.MIN_VALUE}) written(x, 3, v, v);
        x = told(FULL);
        for (int t : new int[] {-1, 4, MIN, MAX}) for (int i : new int[] {0, -1}) due("write(" + t + ", " + i + ", 1)", x.write(t, i, 1), -2);
        for (int t = 0; t < 4; t++) for (int i : new int[] {0, -1, 40}) due("write(" + t + ", " + i + ", 1)", x.write(t, i, 1), -6);
        for (int n : new int[] {0, 1, 20, 40}) {
            x.numbers(2, 1, n);
            for (int i : new int[] {-1, MIN, n, n + 1, 40, 41, MAX}) due("write(2, " + i + ", 1) of " + n, x.write(2, i, 1), -7);
            if (n > 0) due("the first", x.write(2, 0, NONE), NONE);
            if (n > 0) due("the last", x.write(2, n - 1, NONE), NONE);
        }
        x.numbers(0, 0, 3);
        for (int i = 0; i < 3; i++) x.write(0, i, NONE);
        due("each is at its place", x.perform(0), 3);
        x.write(0, 1, 300);
        due("cut to 44: person 4 is at place 4", x.judge(0, 0), 1);
        due("why", x.judge(0, 1), 2);
    }

    // ---- promises 43, 44

    private static void images() {
        sentence(43, "An IMAGE is made: 0. -2.");
        BlankNote x = told(CHAIN);
        for (int i : new int[] {-1, 2, 3, MIN, MAX}) due("image(" + i + ")", x.image(i), -2);
        due("restore(0)", x.restore(0), -5);
        due("image(0)", x.image(0), 0);
        due("image(1)", x.image(1), 0);
        sentence(44, "All that is in an IMAGE is as it was: 0. -2; -5: none was made.");
        x = new BlankNote();
        for (int i = 0; i < 2; i++) due("restore(" + i + ")", x.restore(i), -5);
        for (int i : new int[] {-1, 2, 3, MIN, MAX}) due("restore(" + i + ")", x.restore(i), -2);
        due("image(1)", x.image(1), 0);
        due("restore(0): the other one was", x.restore(0), -5);
        due("restore(1)", x.restore(1), 0);
        due("restore(1) again", x.restore(1), 0);
        sentence(44, "IMAGES 0 to 1: THE VALLEY and what a call could bring back by UNDOING; nothing can be UNDONE behind (none at first).");
        for (int i = 0; i < 2; i++) brings(i);
        both();
    }

    /** All of the full valley comes back behind another text. */
    private static void brings(int i) {
        BlankNote x = told(FULL + "goes : from < to;");
        x.go(0, 5);
        x.days(2);
        x.ear(3, 4);
        x.blank(5, 9);
        List<Long> people = people(x);
        List<Long> text = toldBy(x);
        due("image(" + i + ")", x.image(i), 0);
        due("what could be undone still can", x.count(7), 4);
        due("undo(4)", x.undo(4), 0);
        x.ear(1, 0);
        due("another text", tell(x, "scale 3;tune 1;place 0;person at 0;"), 4);
        x.days(3);
        tray(x, 1, 1, 105, 300);
        tell(x, "scale 2;!");
        feed(x, "scale 7;");
        due("restore(" + i + ")", x.restore(i), 0);
        same("the people", people(x), people);
        same("what was told", toldBy(x), text);
        int[] counts = {10, 6, 6, 6, 2 + 4 + 16, 2, 15, 0, 20, 35};
        for (int w = 0; w < 10; w++) due("count(" + w + ")", x.count(w), counts[w]);
        due("nothing can be undone", x.undo(1), -3);
        due("the tray stays", x.judge(1, 0), 1);
        due("the fault stays", x.fault(0), 1);
        due("its place", x.fault(1), 8);
        due("the other image isn't made", x.restore(1 - i), -5);
        x.days(1);
        due("from then on", x.count(7), 1);
        due("undo(1)", x.undo(1), 0);
        same("the people", people(x), people);
        due("the tape stays", x.valley(8), 1);
        due("of it", x.count(0), 7);
        due("restore(" + i + ") again", x.restore(i), 0);
        same("the people", people(x), people);
    }

    private static void both() {
        BlankNote x = told(CHAIN);
        x.image(0);
        x.days(1);
        x.image(1);
        x.days(1);
        due("restore(0)", x.restore(0), 0);
        due("day", x.count(5), 0);
        due("restore(1)", x.restore(1), 0);
        due("day", x.count(5), 1);
        x.days(5);
        due("image(0) in place of the other", x.image(0), 0);
        x.days(1);
        due("restore(1)", x.restore(1), 0);
        due("day", x.count(5), 1);
        due("restore(0)", x.restore(0), 0);
        due("day", x.count(5), 6);
        x.ear(0, 9);
        x.image(0);
        x.undo(1);
        x.restore(0);
        due("the image as it was when made", x.person(0, 2), 9);
        x = new BlankNote();
        x.days(9);
        due("an image without a text", x.image(0), 0);
        tell(x, CHAIN);
        due("restore(0)", x.restore(0), 0);
        int[] counts = {2, 0, 0, 0, 0, 9, 0, 0, 0, 0};
        for (int w = 0; w < 10; w++) due("count(" + w + ")", x.count(w), counts[w]);
        due("no law", x.tunes(0, 2), 4);
    }

    // ---- promise 45

    private static void count() {
        sentence(45, "0 NOTES, 1 TUNES, 2 PLACES, 3 PEOPLE, 4 who has FOUND, as bits, 5 DAY, 6 ways, 7 calls that can be UNDONE, 8 bytes on THE TAPE, 9 LINES. NONE for others.");
        BlankNote x = new BlankNote();
        for (int w = 0; w < 10; w++) due("at first, count(" + w + ")", x.count(w), w == 0 ? 2 : 0);
        for (int w : new int[] {-1, 10, 11, MIN, MAX}) due("count(" + w + ")", x.count(w), NONE);
        x = told(FULL);
        int[] full = {10, 6, 6, 6, 36, 0, 15, 0, 0, 34};
        for (int w = 0; w < 10; w++) due("of all there can be, count(" + w + ")", x.count(w), full[w]);
        for (int i = 0; i < 12; i++) x.days(99);
        for (int i = 0; i < 46; i++) x.feed(0, 0, 0, 0, 0);
        int[] late = {10, 6, 6, 6, 36 + 1 + 2 + 16, 1188, 15, 10, 900, 34};
        for (int w = 0; w < 10; w++) due("late, count(" + w + ")", x.count(w), late[w]);
        for (int w : new int[] {-1, 10, 11, MIN, MAX}) due("count(" + w + ")", x.count(w), NONE);
    }

    /** The last call that an object is used for answers as the first would. */
    private static void lastCall() {
        named("promise 1, an object is used for 512 calls");
        BlankNote x = new BlankNote();
        for (int i = 0; i < 511; i++) x.days(99);
        due("call 512, the day", x.count(5), 511 * 99);
        x = new BlankNote();
        for (int i = 0; i < 511; i++) x.days(i % 99 + 1);
        due("call 512, undo(10)", x.undo(10), 0);
        x = new BlankNote();
        for (int i = 0; i < 255; i++) {
            x.image(i % 2);
            x.restore(i % 2);
        }
        x.feed(0x7363616c, 0x6520393b, 0x20202020, 0x20202020, 0x20202020);
        due("call 512, a text", x.valley(20), 1);
    }

    public static void main(String[] args) {
        numbers();
        write();
        images();
        count();
        lastCall();
        end();
    }
}
