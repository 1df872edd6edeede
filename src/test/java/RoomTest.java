import java.lang.management.ManagementFactory;

/** What a run of 512 of the dearest calls makes stays far below the room that a run has. */
public final class RoomTest {
    /** 600,000 objects of 16 bytes at least would be 9.6 million; a run stays well below. */
    private static final long BYTES = 3_000_000L;
    private static int wrong = 0;
    private static long sum = 0;

    private interface Call {
        long of(BlankNote x, int i);
    }

    private static long made() {
        return ((com.sun.management.ThreadMXBean) ManagementFactory.getThreadMXBean()).getThreadAllocatedBytes(Thread.currentThread().getId());
    }

    private static void tell(BlankNote x, String text) {
        for (int i = 0; i < text.length(); i += 20) {
            int[] v = new int[5];
            for (int j = 0; j < 20; j++) v[j / 4] |= (i + j < text.length() ? text.charAt(i + j) : ' ') << 24 - j % 4 * 8;
            x.feed(v[0], v[1], v[2], v[3], v[4]);
        }
        if (x.valley(text.length()) < 1) {
            wrong++;
            System.out.println("the text has a fault");
        }
    }

    private static final String TEN = "scale 10;tune 0 1 2 3 4 5 6 7 8;place 0 1 2 3;place 4 5;place 6 7 8;place 9;place 10;place 1;way 0 1;way 1 2;way 2 3;way 3 4;way 4 5;"
            + "person at 0 blank 9;person at 1 blank 8;person at 2 blank 7;person at 3 blank 6;person at 4;person at 5 blank 1;"
            + "hears : not note = blank or found = 1 and note * 3 + ear > who - 2;goes : step < 3 and not step = 0;";

    private static void room(String name, Call call) {
        long before = made();
        BlankNote x = new BlankNote();
        tell(x, TEN);
        x.numbers(0, 1, 20);
        for (int i = 0; i < 512; i++) sum += call.of(x, i);
        long bytes = made() - before;
        if (bytes > BYTES) {
            wrong++;
            System.out.println(name + " made " + bytes + " bytes");
        }
    }

    private static long reading(BlankNote x, int i) {
        // goes:1=1; over and over is the text with most laws for its length
        StringBuilder b = new StringBuilder("scale 2;");
        while (b.length() + 9 <= 20 * (1 + i % 45)) b.append("goes:1=1;");
        if (b.length() > 20 * (1 + i % 45)) return 0;
        int[] v = new int[5];
        for (int k = 0; k < b.length(); k += 20) {
            Arrays5.fill(v, b, k);
            x.feed(v[0], v[1], v[2], v[3], v[4]);
        }
        return x.valley(b.length());
    }

    private static final class Arrays5 {
        static void fill(int[] v, StringBuilder b, int k) {
            for (int j = 0; j < 5; j++) v[j] = 0;
            for (int j = 0; j < 20; j++) v[j / 4] |= (k + j < b.length() ? b.charAt(k + j) : ' ') << 24 - j % 4 * 8;
        }
    }

    public static void main(String[] args) {
        room("warming up", (x, i) -> x.count(0));
        room("person", (x, i) -> x.person(i % 6, 4));
        room("whole", (x, i) -> x.whole(i % 64));
        room("year", (x, i) -> x.year(i, 40));
        room("perform", (x, i) -> x.perform(0));
        room("judge", (x, i) -> x.judge(0, i % 4));
        room("blanks", (x, i) -> x.blanks(0, i % 6));
        room("knowing", (x, i) -> x.knowing(i % 6));
        room("begins", (x, i) -> x.begins(i % 6));
        room("atOnce", (x, i) -> x.atOnce(i % 6));
        room("choir", (x, i) -> x.choir(1023, 2, 1));
        room("row", (x, i) -> x.row(i, i % 6));
        room("pairs", (x, i) -> x.pairs(i, 10 + i % 6));
        room("longNote", (x, i) -> x.longNote(i % 64, 3));
        room("throughNote", (x, i) -> x.throughNote(0, 1023, 3));
        room("tunes", (x, i) -> x.tunes(0, 15));
        room("route", (x, i) -> x.route(i % 6, 1));
        room("near", (x, i) -> x.near(i % 6, 99));
        room("chance", (x, i) -> x.chance(i % 6, 6, 0));
        room("image", (x, i) -> x.image(i % 2) + x.restore(i % 2));
        room("valley", (x, i) -> x.valley(0));
        room("texts", (x, i) -> i < 256 ? reading(x, 1) : 0);
        room("long texts", (x, i) -> i < 11 ? reading(x, 44) : 0);
        System.out.println("room: " + wrong + " not as due (" + (sum & 1) + ")");
        if (wrong != 0) System.exit(1);
    }
}
