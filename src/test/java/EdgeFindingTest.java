/** The edges of promises 34 to 39: how soon, by which way and how likely one comes on its note. */
public final class EdgeFindingTest extends Bench {

    private static final String WAYS = "way 0 1;way 1 2;way 2 3;way 3 4;way 4 5;";
    /** Six in a line; the last sounds 0 every fourth day, from day 3 on. */
    private static final String LINE = "scale 2;place 2;place 2;place 2;place 2;place 2;place 2 2 2 0;" + WAYS + "person at 0 blank 0;person at 0 blank 1;person at 5 blank 0;";

    private static void comes(BlankNote x, int p, int finds, int... route) {
        due("finds(" + p + ")", x.finds(p), finds);
        for (int i = 0; i < route.length; i++) due("route(" + p + ", " + i + ")", x.route(p, i), route[i]);
        for (int i : new int[] {route.length, route.length + 1, 18, 99, MAX}) due("route(" + p + ", " + i + ")", x.route(p, i), NONE);
        for (int i : new int[] {-1, MIN}) due("route(" + p + ", " + i + ")", x.route(p, i), -3);
    }

    // ---- promises 34, 35

    private static void finds() {
        sentence(34, "COMING ON its NOTE: on which DAY (1: today; 0: it has FOUND). NONE: never; -2.");
        BlankNote x = told(FULL);
        comes(x, 0, 1, 0);
        comes(x, 1, 2, 0, 1);
        comes(x, 2, 0);
        comes(x, 3, NONE);
        comes(x, 4, 1, 4);
        comes(x, 5, 0);
        x.blank(3, 7);
        comes(x, 3, NONE);
        x.blank(3, 6);
        comes(x, 3, 4, 0, 0, 0, 3);
        x.blank(3, 3);
        comes(x, 3, 1, 3);
        x.blank(2, 9);
        comes(x, 2, 1, 4);
        for (int p : new int[] {-1, 6, MIN, MAX}) {
            due("finds(" + p + ")", x.finds(p), -2);
            for (int i : new int[] {0, -1, MAX}) due("route(" + p + ", " + i + ")", x.route(p, i), -2);
        }
        due("without people", new BlankNote().finds(0), -2);
        sentence(35, "Where it is on the i-th of these DAYS (0: today). NONE: not so many, never; -2; -3: i is below 0.");
        due("without people", new BlankNote().route(0, 0), -2);
        x = told(LINE);
        comes(x, 0, 8, 0, 0, 0, 1, 2, 3, 4, 5);
        comes(x, 1, NONE);
        comes(x, 2, 4, 4, 3, 4, 5);
        x.days(1);
        comes(x, 0, 7, 0, 0, 1, 2, 3, 4, 5);
        x.days(2);
        comes(x, 0, 5, 1, 2, 3, 4, 5);
        comes(x, 2, 1, 5);
        sentence(34, "COMING ON its NOTE: a PERSON on each DAY from today on first GOES by a way, or stays, then that DAY is over: on which it FINDS first (1: today): the soonest, of like ones the first by PLACES.");
        x = told("scale 2;place 0 2;place 0;place 0;way 0 1;way 0 2;person at 2 blank 0;person at 1 blank 0;person at 0 blank 0;");
        comes(x, 0, 1, 0);
        comes(x, 1, 1, 0);
        comes(x, 2, 1, 0);
        x.days(1);
        x.blank(2, 0);
        comes(x, 2, 1, 1);
        x = told("scale 2;place 2;place 0;person at 0 blank 0;person at 1 blank 1;person at 1 blank 0;");
        comes(x, 0, NONE);
        comes(x, 1, NONE);
        comes(x, 2, 1, 1);
        x = told("scale 2;place 2;place 2;place 2 2 0;way 0 2;way 1 2;person at 2 blank 0;person at 1 blank 0;");
        comes(x, 0, 3, 0, 0, 2);
        comes(x, 1, 3, 1, 1, 2);
    }

    // ---- promise 36

    private static void all() {
        sentence(36, "The DAY on which all who can have FOUND at soonest, each by its own way (1: today; 0: nobody has to).");
        due("nobody", new BlankNote().all(), 0);
        due("all have found", told("scale 2;place 0;person at 0 found;person at 0 blank 1 found;").all(), 0);
        due("nobody can", told("scale 2;place 2;person at 0 blank 0;person at 0;").all(), 0);
        due("today", told("scale 2;place 0;person at 0 blank 0;person at 0;person at 0 blank 1;person at 0 blank 1 found;").all(), 1);
        BlankNote x = told(FULL);
        due("the last is person 1", x.all(), 2);
        x.days(1);
        due("a day on", x.all(), 1);
        x.days(1);
        due("nobody has to", x.all(), 0);
        x = told(LINE);
        due("the latest of all who can", x.all(), 8);
        x.blank(0, NONE);
        due("without that one", x.all(), 4);
        due("the last person is the latest", told("scale 2;place 0;place 2 2 0;" + "person at 0 blank 0;".repeat(5) + "person at 1 blank 0;").all(), 3);
    }

    // ---- promise 37

    private static void near() {
        sentence(37, "PLACES from which a PERSON could come on its NOTE within n DAYS (1 to 99), being there today, as bits (FOUND: all). -2; -3.");
        BlankNote x = told(LINE);
        int[] places = {0, 0, 0, 62, 62, 62, 62, 63, 63};
        for (int n = 1; n <= 9; n++) due("near(0, " + n + ")", x.near(0, n), places[n - 1]);
        for (int n : new int[] {98, 99}) due("near(0, " + n + ")", x.near(0, n), 63);
        for (int n : new int[] {1, 99}) due("near(1, " + n + "): never", x.near(1, n), 0);
        for (int n : new int[] {0, -1, 100, 101, MIN, MAX}) for (int p = 0; p < 3; p++) due("near(" + p + ", " + n + ")", x.near(p, n), -3);
        for (int p : new int[] {-1, 3, MIN, MAX}) for (int n : new int[] {1, 99, 0, 100}) due("near(" + p + ", " + n + ")", x.near(p, n), -2);
        x.days(3);
        due("today: there, or by one way", x.near(0, 1), 48);
        due("as far from where another is", x.near(2, 1), 48);
        due("till it sounds again", x.near(0, 4), 48);
        due("till it sounds again", x.near(0, 5), 63);
        x = told(FULL);
        for (int n : new int[] {1, 99}) {
            due("found, near(2, " + n + ")", x.near(2, n), 63);
            due("found, near(5, " + n + ")", x.near(5, n), 63);
            due("no blank, near(3, " + n + ")", x.near(3, n), 0);
        }
        due("near(1, 1)", x.near(1, 1), 0);
        due("near(1, 2)", x.near(1, 2), 63);
        x = told("scale 2;place 0;place 2;place 0;person at 1 blank 0;person at 1 blank 0 found;");
        due("without ways", x.near(0, 99), 5);
        due("found: all", x.near(1, 99), 7);
        due("without people", new BlankNote().near(0, 1), -2);
    }

    // ---- promise 38

    private static void chance(BlankNote x, int p, int n, long above, long below) {
        due("chance(" + p + ", " + n + ", 0)", x.chance(p, n, 0), above);
        due("chance(" + p + ", " + n + ", 1)", x.chance(p, n, 1), below);
    }

    /** One place with so many around it; the last of these sounds; person 0 is at the first of these, person 1 amid. */
    private static BlankNote star(int around) {
        StringBuilder b = new StringBuilder("scale 2;place 2;");
        for (int k = 1; k <= around; k++) b.append(k < around ? "place 2;" : "place 0;");
        for (int k = 1; k <= around; k++) b.append("way 0 ").append(k).append(";");
        return told(b + "person at 1 blank 0;person at 0 blank 0;");
    }

    private static void chance() {
        sentence(38, "CHANCE within n DAYS, what 0: the number above, 1: below. -2: the PERSON, what; -3: n.");
        BlankNote x = told(FULL);
        for (int n = 0; n <= 6; n++) {
            chance(x, 2, n, 1, 1);
            chance(x, 5, n, 1, 1);
            chance(x, 3, n, 0, 1);
        }
        chance(x, 0, 0, 0, 1);
        chance(x, 0, 1, 1, 6);
        chance(x, 0, 2, 11, 36);
        chance(x, 0, 6, 31031, 46656);
        chance(x, 1, 1, 0, 1);
        chance(x, 1, 2, 1, 6);
        chance(x, 1, 3, 1, 6);
        chance(x, 1, 6, 91, 216);
        for (int n : new int[] {-1, 7, 8, MIN, MAX}) for (int p = 0; p < 6; p++) for (int w = 0; w < 2; w++) due("chance(" + p + ", " + n + ", " + w + ")", x.chance(p, n, w), -3);
        for (int p : new int[] {-1, 6, MIN, MAX}) for (int n : new int[] {0, 7}) due("chance(" + p + ", " + n + ", 0)", x.chance(p, n, 0), -2);
        for (int w : new int[] {-1, 2, MIN, MAX}) for (int n : new int[] {0, 7}) due("chance(0, " + n + ", " + w + ")", x.chance(0, n, w), -2);
        due("without people", new BlankNote().chance(0, 0, 0), -2);
        sentence(38, "CHANCE: it GOES on each DAY by one of its ways or stays, each as likely: how likely it has FOUND within n DAYS (0 to 6), in lowest terms.");
        for (int around = 2; around <= 5; around++) {
            x = star(around);
            chance(x, 1, 1, 1, around + 1);
            chance(x, 0, 1, 0, 1);
            chance(x, 0, 2, 1, 2 * around + 2);
        }
        chance(star(3), 0, 3, 7, 32);
        x = told("scale 2;place 2;place 0;way 0 1;way 1 0;person at 0 blank 0;");
        for (int n = 0; n <= 6; n++) chance(x, 0, n, (1 << n) - 1, 1 << n);
        x = told("scale 2;place 0;place 0;way 0 1;person at 0 blank 0;person at 0 blank 1;");
        chance(x, 0, 0, 0, 1);
        for (int n = 1; n <= 6; n++) {
            chance(x, 0, n, 1, 1);
            chance(x, 1, n, 0, 1);
        }
        x = told("scale 2;place 2 2 2 2;place 0 2;place 2 0;way 0 1;way 0 2;person at 0 blank 0;");
        chance(x, 0, 1, 1, 3);
        x.days(1);
        chance(x, 0, 1, 1, 3);
        chance(x, 0, 2, 11, 18);
    }

    // ---- promise 39

    private static void likeliest() {
        sentence(39, "The PERSON who is likeliest to have FOUND within n DAYS of those who haven't, the first. NONE: nobody; -3.");
        due("nobody", new BlankNote().likeliest(0), NONE);
        BlankNote x = told("scale 2;place 0;person at 0 blank 0 found;person at 0 found;");
        for (int n = 0; n <= 6; n++) due("all have: likeliest(" + n + ")", x.likeliest(n), NONE);
        x = told("scale 2;place 0;person at 0 found;person at 0;person at 0 blank 1;");
        for (int n = 0; n <= 6; n++) due("none ever will: the first, likeliest(" + n + ")", x.likeliest(n), 1);
        x = told("scale 2;place 2;place 0;way 0 1;place 0;" + "person at 0;".repeat(4) + "person at 0 blank 0;person at 2 blank 0;");
        due("within 0 days", x.likeliest(0), 0);
        for (int n = 1; n <= 6; n++) due("the last: surely, likeliest(" + n + ")", x.likeliest(n), 5);
        x.days(1);
        for (int n = 1; n <= 6; n++) due("that one has, likeliest(" + n + ")", x.likeliest(n), 4);
        x = told(FULL);
        for (int n = 0; n <= 6; n++) due("two alike: the first, likeliest(" + n + ")", x.likeliest(n), 0);
        for (int n : new int[] {-1, 7, 8, MIN, MAX}) {
            due("likeliest(" + n + ")", x.likeliest(n), -3);
            due("likeliest(" + n + ") without people", new BlankNote().likeliest(n), -3);
        }
        x.blank(0, NONE);
        due("then the other of them", x.likeliest(6), 4);
    }

    public static void main(String[] args) {
        finds();
        all();
        near();
        chance();
        likeliest();
        end();
    }
}
