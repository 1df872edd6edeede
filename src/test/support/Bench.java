import java.io.IOException;
import java.io.UncheckedIOException;
import java.nio.file.Files;
import java.nio.file.Path;
import java.util.ArrayList;
import java.util.IdentityHashMap;
import java.util.List;
import java.util.Map;

/** What the tests share: sentences of the document, texts on the tape, answers held against those due. */
class Bench {
    static final int MIN = Integer.MIN_VALUE;
    static final int MAX = Integer.MAX_VALUE;
    static final int NONE = -1;

    /** Notes 0 to 3; a chain of places 0 - 1 - 2; three people, the last without a blank. */
    static final String CHAIN = "scale 4;tune 0 1 2 3;tune 3 3 1;place 0 4;place 1 2 3;place 2;way 0 1;way 1 2;"
            + "person at 0 blank 2;person at 1 blank 3 ear 5;person at 2;goes : step < 2;";

    /** All there can be: ten notes, six tunes, places and people, a way between each two places. */
    static final String FULL = "scale 10;tune 0;tune 9;tune 0 1 2 3 4 5 6 7 8;tune 9 9 9 9 9 9 9 9 9;tune 5 9;tune 9 5;"
            + "place 0;place 10 1;place 2 10 2;place 3 4 5 6;place 9 9 9 9;place 10;"
            + "way 0 1;way 0 2;way 0 3;way 0 4;way 0 5;way 1 2;way 1 3;way 1 4;way 1 5;way 2 3;way 2 4;way 2 5;way 3 4;way 3 5;way 4 5;"
            + "person at 0 blank 0;person at 1 blank 1 ear 9;person at 2 blank 9 found;person at 3;person at 4 blank 9 ear 1;person at 5 found;";

    interface Maker {
        BlankNote make();
    }

    interface Call {
        long of(BlankNote x);
    }

    private static int wrong = 0;
    private static int asked = 0;
    private static String where = "";
    private static String document = null;
    private static final Map<Maker, List<Long>> known = new IdentityHashMap<>();

    // ---- sentences

    /** What follows holds this sentence, which stands under the promise's heading or in the terms. */
    static void sentence(int promise, String words) {
        where = "promise " + promise + ", '" + words + "'";
        if (!partOfDocument("## Promise " + promise + ":").contains(words) && !partOfDocument("## Terms").contains(words)) {
            fail("the document has no such sentence");
        }
    }

    /** One heading's text without marks, its blanks and lines folded. */
    static String partOfDocument(String heading) {
        if (document == null) {
            document = read("../shared/DOC.md");
        }
        int from = document.indexOf(heading);
        if (from < 0) return "";
        int to = document.indexOf("\n## ", from);
        return document.substring(from, to < 0 ? document.length() : to).replaceAll("```(text)?|==== [0-9][.]", " ").replaceAll("\\s+", " ");
    }

    static String read(String path) {
        try {
            return Files.readString(Path.of(path));
        } catch (IOException e) {
            throw new UncheckedIOException(e);
        }
    }

    static void named(String what) {
        where = what;
    }

    static void fail(String what) {
        wrong++;
        System.out.println(where + ": " + what);
    }

    static void due(String call, long got, long want) {
        asked++;
        if (got != want) fail(call + " answered " + got + ", due is " + want);
    }

    static void end() {
        System.out.println(asked + " answers, " + wrong + " not as due");
        if (wrong != 0) System.exit(1);
    }

    // ---- texts

    /** The text comes on the tape, blanks behind it to a full twenty. */
    static void feed(BlankNote x, String text) {
        for (int i = 0; i < text.length(); i += 20) {
            int[] v = new int[5];
            for (int j = 0; j < 20; j++) {
                int c = i + j < text.length() ? text.charAt(i + j) : ' ';
                v[j / 4] |= c << 24 - j % 4 * 8;
            }
            x.feed(v[0], v[1], v[2], v[3], v[4]);
        }
    }

    static int tell(BlankNote x, String text) {
        feed(x, text);
        return x.valley(text.length());
    }

    /** A new object with this text, which must be without a fault. */
    static BlankNote told(String text) {
        BlankNote x = new BlankNote();
        int lines = 0;
        for (char c : text.toCharArray()) lines += c == ';' ? 1 : 0;
        due("valley of <" + text + ">", tell(x, text), lines);
        return x;
    }

    static void good(String text, int lines) {
        BlankNote x = new BlankNote();
        due("valley of <" + text + ">", tell(x, text), lines);
        due("fault(0) of <" + text + ">", x.fault(0), 0);
        due("fault(1) of <" + text + ">", x.fault(1), NONE);
        due("tape behind <" + text + ">", x.count(8), 0);
    }

    /** The text has this fault, and the valley told ahead of it stays. */
    static void faulty(String text, int kind, int place) {
        BlankNote x = told("scale 3;tune 1;");
        x.days(1);
        due("valley of <" + text + ">", tell(x, text), -30 - kind);
        due("fault(0) of <" + text + ">", x.fault(0), kind);
        due("fault(1) of <" + text + ">", x.fault(1), place);
        due("notes stay", x.count(0), 3);
        due("tunes stay", x.count(1), 1);
        due("day stays", x.count(5), 1);
        due("undo stays", x.count(7), 1);
        due("tape is empty", x.count(8), 0);
        due("lines stay", x.count(9), 2);
    }

    static void tray(BlankNote x, int tray, int sort, long... v) {
        due("numbers", x.numbers(tray, sort, v.length), 0);
        for (int i = 0; i < v.length; i++) due("write " + v[i], x.write(tray, i, v[i]), v[i]);
    }

    // ---- what can be seen

    /** What can be seen of the state. */
    static List<Long> seen(BlankNote x) {
        List<Long> l = new ArrayList<>();
        for (int w = 0; w < 10; w++) l.add((long) x.count(w));
        for (int p = 0; p < x.count(3); p++) for (int w = 0; w < 5; w++) l.add((long) x.person(p, w));
        for (int k = 0; k < x.count(2); k++) for (int w = 0; w < 3; w++) l.add((long) x.place(k, w));
        for (int t = 0; t < 4; t++) for (int w = 0; w < 4; w++) l.add((long) x.judge(t, w));
        l.add((long) x.fault(0));
        l.add((long) x.fault(1));
        return l;
    }

    static void unchanged(String what, BlankNote x, List<Long> before) {
        same(what + " changed something", seen(x), before);
    }

    static void same(String what, List<Long> got, List<Long> want) {
        asked++;
        if (!got.equals(want)) fail(what + ": " + want + " became " + got);
    }

    /** The people, who found and the day: all that deeds can change. */
    static List<Long> people(BlankNote x) {
        List<Long> l = new ArrayList<>();
        l.add((long) x.count(4));
        l.add((long) x.count(5));
        for (int p = 0; p < x.count(3); p++) for (int w = 0; w < 5; w++) l.add((long) x.person(p, w));
        return l;
    }

    /** What the text told: notes of tunes, sounds, ways, how a tune may go on. */
    static List<Long> toldBy(BlankNote x) {
        List<Long> l = new ArrayList<>();
        for (int t = 0; t < x.count(1); t++) for (int i = 0; i < 10; i++) l.add((long) x.note(t, i));
        for (int k = 0; k < x.count(2); k++) for (int d = 0; d < 4; d++) l.add((long) x.sounds(k, d));
        for (int n = 1; n < 5; n++) l.add(x.tunes(0, n));
        for (int i = 0; i < 10; i++) l.add((long) x.longNote(0, i));
        return l;
    }

    // ---- refused calls

    /**
     * The call answers this code and nothing is otherwise behind it: two objects are made alike, one is
     * refused the call, and all that can be brought out of them (by undoing, images, trays, the tape) is alike.
     */
    static void refused(Maker maker, String call, long code, Call c) {
        due(call, c.of(maker.make()), code);
        changesNothing(maker, call, c);
    }

    static void changesNothing(Maker maker, String call, Call c) {
        if (!known.containsKey(maker)) known.put(maker, broughtOut(maker, null));
        same(call + " changed something", broughtOut(maker, c), known.get(maker));
    }

    private static BlankNote madeAndCalled(Maker maker, Call c) {
        BlankNote x = maker.make();
        if (c != null) c.of(x);
        return x;
    }

    /** Each of these spoils the object, so each has one of its own. */
    private static List<Long> broughtOut(Maker maker, Call c) {
        BlankNote x = madeAndCalled(maker, c);
        List<Long> l = seen(x);
        l.addAll(toldBy(x));
        l.addAll(broughtBack(madeAndCalled(maker, c)));
        for (int i = 0; i < 2; i++) {
            x = madeAndCalled(maker, c);
            l.add((long) x.restore(i));
            l.addAll(seen(x));
            l.addAll(toldBy(x));
        }
        for (int t = 0; t < 4; t++) l.addAll(inTray(maker, c, t));
        x = madeAndCalled(maker, c);
        l.add((long) x.valley(x.count(8)));
        l.add((long) x.fault(1));
        l.addAll(toldBy(x));
        return l;
    }

    private static List<Long> broughtBack(BlankNote x) {
        List<Long> l = new ArrayList<>();
        for (int i = 0; i < 10; i++) {
            l.add((long) x.undo(1));
            l.addAll(people(x));
        }
        return l;
    }

    /** How many numbers a tray has, of which sort, and what they do. */
    private static List<Long> inTray(Maker maker, Call c, int tray) {
        List<Long> l = new ArrayList<>();
        BlankNote x = madeAndCalled(maker, c);
        for (int p = 0; p < 3; p++) l.add((long) x.blanks(tray, p));
        l.add((long) x.perform(tray));
        l.addAll(people(x));
        for (int i = 0; i <= 40; i++) l.add(x.write(tray, i, 0x123456789abcdef0L));
        return l;
    }
}
