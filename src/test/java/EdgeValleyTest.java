/** The edges of promises 5 to 11: what can be asked of people, places and tunes. */
public final class EdgeValleyTest extends Bench {

    private static final int[] HEARD = {1022, 1021, 1023, 1023, 511, 1023};

    // ---- promise 5

    private static void person() {
        sentence(5, "Of a PERSON, what 0: its PLACE, 1: blank (NONE), 2: ear, 3: 1 if it has FOUND, else 0, 4: NOTES it HEARS, as bits.");
        BlankNote x = told(FULL);
        int[][] want = {{0, 0, 0, 0}, {1, 1, 9, 0}, {2, 9, 0, 1}, {3, NONE, 0, 0}, {4, 9, 1, 0}, {5, NONE, 0, 1}};
        for (int p = 0; p < 6; p++) {
            for (int w = 0; w < 4; w++) due("person(" + p + ", " + w + ")", x.person(p, w), want[p][w]);
            due("person(" + p + ", 4)", x.person(p, 4), HEARD[p]);
        }
        for (int p : new int[] {-1, 6, 7, MIN, MAX}) for (int w = 0; w < 5; w++) due("person(" + p + ", " + w + ")", x.person(p, w), -2);
        for (int w : new int[] {-1, 5, 6, MIN, MAX}) for (int p = 0; p < 6; p++) due("person(" + p + ", " + w + ")", x.person(p, w), -2);
        x = told("scale 2;place 0;person at 0;");
        due("the only one", x.person(0, 4), 3);
        due("none behind it", x.person(1, 4), -2);
        x = told("scale 10;place 0;person at 0;hears:1=0;");
        due("it hears none", x.person(0, 4), 0);
        due("without people", new BlankNote().person(0, 0), -2);
    }

    // ---- promise 6

    private static void sounds() {
        sentence(6, "What a PLACE SOUNDS on a DAY (0 and above).");
        BlankNote x = told(FULL);
        int[][] want = {{0}, {NONE, 1}, {2, NONE, 2}, {3, 4, 5, 6}, {9, 9, 9, 9}, {NONE}};
        for (int k = 0; k < 6; k++) for (int d = 0; d < 14; d++) due("sounds(" + k + ", " + d + ")", x.sounds(k, d), want[k][d % want[k].length]);
        for (int k = 0; k < 6; k++) for (int d = 0; d < 5; d++) due("sounds(" + k + ", max - " + d + ")", x.sounds(k, MAX - d), want[k][(MAX - d) % want[k].length]);
        x.days(1);
        due("of the day that is told, not today", x.sounds(3, 0), 3);
        sentence(6, "NONE: none; -2: the PLACE; -3: the DAY.");
        due("none", x.sounds(5, 0), NONE);
        for (int k : new int[] {-1, 6, MIN, MAX}) for (int d : new int[] {0, MAX, -1, MIN}) due("sounds(" + k + ", " + d + ")", x.sounds(k, d), -2);
        for (int d : new int[] {-1, -4, MIN}) for (int k = 0; k < 6; k++) due("sounds(" + k + ", " + d + ")", x.sounds(k, d), -3);
        sentence(6, "for DAY 0, 1 .., coming round");
        x = told("scale 5;place 0 1 2 3;place 0 1 2;place 0 1;place 0;");
        for (int d = 0; d < 13; d++) for (int k = 0; k < 4; k++) due("sounds(" + k + ", " + d + ")", x.sounds(k, d), d % (4 - k));
    }

    // ---- promise 7

    private static void place() {
        sentence(7, "Of a PLACE, what 0: PLACES to which there are ways, as bits, 1: PEOPLE there, as bits, 2: in how many DAYS its SOUNDS come round.");
        BlankNote x = told(FULL);
        int[] round = {1, 2, 3, 4, 4, 1};
        for (int k = 0; k < 6; k++) {
            due("place(" + k + ", 0)", x.place(k, 0), 63 - (1 << k));
            due("place(" + k + ", 1)", x.place(k, 1), 1 << k);
            due("place(" + k + ", 2)", x.place(k, 2), round[k]);
        }
        for (int p = 0; p < 5; p++) x.go(p, 5);
        due("all are at place 5", x.place(5, 1), 63);
        for (int k = 0; k < 5; k++) due("nobody at place " + k, x.place(k, 1), 0);
        due("ways stay", x.place(5, 0), 31);
        x = told("scale 2;place 0;place 0;");
        due("no ways", x.place(0, 0), 0);
        due("nobody", x.place(1, 1), 0);
        x = told(FULL);
        for (int k : new int[] {-1, 6, MIN, MAX}) for (int w = -1; w < 4; w++) due("place(" + k + ", " + w + ")", x.place(k, w), -2);
        for (int w : new int[] {-1, 3, MIN, MAX}) for (int k = 0; k < 6; k++) due("place(" + k + ", " + w + ")", x.place(k, w), -2);
        due("without places", new BlankNote().place(0, 0), -2);
    }

    // ---- promise 8

    private static void note() {
        sentence(8, "Of a TUNE, the i-th NOTE. NONE: not so many; -2; -3: i is below 0.");
        BlankNote x = told(FULL);
        int[][] want = {{0}, {9}, {0, 1, 2, 3, 4, 5, 6, 7, 8}, {9, 9, 9, 9, 9, 9, 9, 9, 9}, {5, 9}, {9, 5}};
        for (int t = 0; t < 6; t++) {
            for (int i = 0; i < 12; i++) due("note(" + t + ", " + i + ")", x.note(t, i), i < want[t].length ? want[t][i] : NONE);
            due("note(" + t + ", max)", x.note(t, MAX), NONE);
            due("note(" + t + ", -1)", x.note(t, -1), -3);
            due("note(" + t + ", min)", x.note(t, MIN), -3);
        }
        for (int t : new int[] {-1, 6, MIN, MAX}) for (int i : new int[] {0, 9, -1, MIN, MAX}) due("note(" + t + ", " + i + ")", x.note(t, i), -2);
        due("without tunes", new BlankNote().note(0, 0), -2);
    }

    // ---- promise 9

    private static void steps() {
        sentence(9, "Places in a TUNE over which a PERSON steps (it doesn't HEAR the NOTE), as bits. -2: the TUNE, the PERSON.");
        BlankNote x = told(FULL);
        int[][] want = {{1, 0, 0, 0, 0, 0}, {0, 0, 0, 0, 1, 0}, {1, 2, 0, 0, 0, 0}, {0, 0, 0, 0, 511, 0}, {0, 0, 0, 0, 2, 0}, {0, 0, 0, 0, 1, 0}};
        for (int t = 0; t < 6; t++) for (int p = 0; p < 6; p++) due("steps(" + t + ", " + p + ")", x.steps(t, p), want[t][p]);
        for (int wrong : new int[] {-1, 6, MIN, MAX}) {
            due("steps(" + wrong + ", 0)", x.steps(wrong, 0), -2);
            due("steps(0, " + wrong + ")", x.steps(0, wrong), -2);
            due("steps(" + wrong + ", " + wrong + ")", x.steps(wrong, wrong), -2);
        }
        x.blank(0, 8);
        due("the last of nine", x.steps(2, 0), 256);
        x = told("scale 2;tune 0 1;");
        due("a tune and nobody", x.steps(0, 0), -2);
        x = told("scale 2;place 0;person at 0;");
        due("somebody and no tune", x.steps(0, 0), -2);
    }

    // ---- promise 10

    private static void whole() {
        sentence(10, "TUNES that a set of PEOPLE HEARS whole, each of them, as bits.");
        BlankNote x = told(FULL);
        int[][] want = {{0, 63}, {1, 58}, {2, 59}, {4, 63}, {8, 63}, {16, 5}, {32, 63}, {44, 63}, {3, 58}, {17, 0}, {18, 1}, {63, 0}};
        for (int[] w : want) due("whole(" + w[0] + ")", x.whole(w[0]), w[1]);
        sentence(10, "-3: others are in the set.");
        for (int set : new int[] {64, 65, 127, 128, 1 << 30, MIN, MAX, -1}) due("whole(" + set + ")", x.whole(set), -3);
        x = new BlankNote();
        due("no tunes, nobody", x.whole(0), 0);
        due("a set of one who isn't", x.whole(1), -3);
        x = told("scale 2;place 0;person at 0;");
        due("no tunes", x.whole(1), 0);
        due("whole(2)", x.whole(2), -3);
        due("whole(3)", x.whole(3), -3);
    }

    // ---- promise 11

    private static void owners() {
        sentence(11, "PEOPLE who don't HEAR a NOTE, as bits. -2.");
        BlankNote x = told(FULL);
        int[] want = {1, 2, 0, 0, 0, 0, 0, 0, 0, 16};
        for (int n = 0; n < 10; n++) due("owners(" + n + ")", x.owners(n), want[n]);
        for (int n : new int[] {-1, 10, 11, 32, MIN, MAX}) due("owners(" + n + ")", x.owners(n), -2);
        for (int p = 0; p < 6; p++) x.blank(p, 9);
        due("all", x.owners(9), 63);
        due("nobody", x.owners(0), 0);
        x = new BlankNote();
        due("nobody is there", x.owners(1), 0);
        due("owners(2) of two", x.owners(2), -2);
    }

    public static void main(String[] args) {
        person();
        sounds();
        place();
        note();
        steps();
        whole();
        owners();
        end();
    }
}
