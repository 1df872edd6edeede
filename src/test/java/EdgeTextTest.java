import java.util.List;

/** The edges of promises 1 to 4: a new object, the tape, texts with and without a fault. */
public final class EdgeTextTest extends Bench {

    private static String times(String part, int n) {
        return part.repeat(n);
    }

    /** A text of just so many bytes: blanks come behind it. */
    private static String filled(String text, int length) {
        return text + " ".repeat(length - text.length());
    }

    // ---- promise 1

    private static void newObject() {
        sentence(1, "2 NOTES, no TUNES, PLACES, PEOPLE.");
        BlankNote x = new BlankNote();
        for (int w = 0; w < 10; w++) due("count(" + w + ")", x.count(w), w == 0 ? 2 : 0);
        due("note 1 is there", x.owners(1), 0);
        due("note 2 isn't", x.owners(2), -2);
        due("no tune", x.note(0, 0), -2);
        due("no place", x.sounds(0, 0), -2);
        due("no person", x.person(0, 0), -2);
        due("no set of people but the empty one", x.whole(1), -3);
        sentence(1, "(without one: 2 NOTES, no TUNES, PLACES, PEOPLE)");
        due("a set of both notes", x.through(0, 3), 2);
        due("a set of three", x.through(0, 4), -3);
        due("each note may follow each", x.tunes(0, 2), 4);
        due("a text that is refused leaves it so", x.valley(0), -32);
        due("notes", x.count(0), 2);
        due("NONE", BlankNote.NONE, -1);
        due("a DAY can be over without anybody", x.days(1), 0);
        due("day", x.count(5), 1);
    }

    // ---- promise 2

    private static void feeding() {
        sentence(2, "Twenty bytes come behind those on THE TAPE, the highest of each int first: how many it has.");
        BlankNote x = new BlankNote();
        // "scale 3;tune 2 1 0 2" and " 1;tune 0;", byte by byte
        due("feed", x.feed(0x7363616c, 0x6520333b, 0x74756e65, 0x20322031, 0x20302032), 20);
        due("feed", x.feed(0x20313b74, 0x756e6520, 0x303b2020, 0x20202020, 0x20202020), 40);
        due("valley(40)", x.valley(40), 3);
        int[] notes = {2, 1, 0, 2, 1};
        for (int i = 0; i < 5; i++) due("note(0, " + i + ")", x.note(0, i), notes[i]);
        due("note(1, 0)", x.note(1, 0), 0);
        due("bytes above 127 are bytes, too", x.feed(0x20202020, 0x202020ff, 0x20202020, 0x20202020, 0x20202020), 20);
        due("valley(20)", x.valley(20), -31);
        due("fault(1): the byte 255", x.fault(1), 7);
        for (int place = 0; place < 20; place++) {
            StringBuilder b = new StringBuilder(" ".repeat(20));
            b.setCharAt(place, '!');
            feed(x, b.toString());
            due("valley(20), '!' at " + place, x.valley(20), -31);
            due("fault(1)", x.fault(1), place);
        }
    }

    private static void fullTape() {
        sentence(2, "-5: it would have more than 900.");
        BlankNote x = new BlankNote();
        for (int i = 1; i <= 45; i++) due("feed " + i, x.feed(0x20202020, 0x20202020, 0x20202020, 0x20202020, 0x20202020), 20 * i);
        due("count(8): 900", x.count(8), 900);
        for (int i = 0; i < 3; i++) due("one more", x.feed(0x21212121, 0, -1, MIN, MAX), -5);
        due("count(8): 900", x.count(8), 900);
        due("blanks to the end", x.valley(900), -32);
        due("fault(1)", x.fault(1), 900);
        due("there is room again", x.feed(0, 0, 0, 0, 0), 20);
        sentence(3, "a TEXT of at most 900 bytes");
        String last = "tune 1 0 1;";
        due("a text of 900 bytes, its last line at the end", tell(x = new BlankNote(), filled("scale 2;", 900 - last.length()) + last), 2);
        due("note(0, 2)", x.note(0, 2), 1);
        faulty(filled("scale 2;", 899) + ";", 2, 899);
        faulty(filled("scale 2;", 899) + "!", 1, 899);
        faulty(filled("scale 2", 900), 2, 900);
        faulty(filled("scale 2;", 895) + "tune1", 2, 900);
        faulty(times("a", 900), 2, 0);
        faulty("scale 2;" + times("z", 892), 2, 8);
        faulty("scale " + times("0", 894), 1, 6);
        faulty(times("\n", 900), 2, 900);
    }

    // ---- promise 3: the call

    private static void firstBytes() {
        sentence(3, "The first n bytes of THE TAPE (which is empty then) are THE VALLEY");
        String text = "scale 5;tune 4;tune 1 2;!";
        int[] lines = {8, 1, 15, 2, 24, 3};
        for (int i = 0; i < 6; i += 2) {
            BlankNote x = new BlankNote();
            feed(x, text);
            due("valley(" + lines[i] + ")", x.valley(lines[i]), lines[i + 1]);
            due("tunes", x.count(1), lines[i + 1] - 1);
            due("the tape is empty", x.count(8), 0);
            due("nothing is left of it", x.valley(1), -3);
        }
        for (int n : new int[] {0, 5, 7, 14, 23}) {
            BlankNote x = new BlankNote();
            feed(x, text);
            due("valley(" + n + "): it ends too soon", x.valley(n), -32);
            due("fault(1)", x.fault(1), n);
            due("the tape is empty with a fault, too", x.count(8), 0);
        }
        BlankNote x = new BlankNote();
        feed(x, "scale 10;");
        due("a number cut in two: scale 1", x.valley(7), -33);
        feed(x, "scale 10;");
        due("valley(9)", x.valley(9), 1);
        due("ten notes", x.count(0), 10);
        sentence(3, "-3: n is below 0 or above what there is (THE TAPE stays)");
        x = new BlankNote();
        due("valley(1) of an empty tape", x.valley(1), -3);
        due("valley(-1) of an empty tape", x.valley(-1), -3);
        due("valley(0) of an empty tape is read", x.valley(0), -32);
        feed(x, "scale 7;            ");
        for (int n : new int[] {-1, MIN, 21, 900, 901, MAX}) {
            due("valley(" + n + ")", x.valley(n), -3);
            due("the tape stays", x.count(8), 20);
        }
        due("valley(20): all there is", x.valley(20), 1);
        due("seven notes", x.count(0), 7);
    }

    private static void anew() {
        sentence(3, "DAY is 0, nothing can be UNDONE");
        BlankNote x = told(CHAIN);
        x.days(5);
        x.ear(0, 9);
        due("count(7)", x.count(7), 2);
        due("valley", tell(x, CHAIN), 12);
        due("day", x.count(5), 0);
        due("count(7)", x.count(7), 0);
        due("undo(1)", x.undo(1), -3);
        due("an ear as told", x.person(0, 2), 0);
        x.days(3);
        due("person 1 has found", x.count(4), 2);
        due("a valley of one note more", tell(x, "scale 5;place 0;person at 0;person at 0;"), 4);
        due("nobody has", x.count(4), 0);
        due("no law of before", x.tunes(0, 2), 25);
        due("no tune of before", x.count(1), 0);
        due("no way of before", x.count(6), 0);
        sentence(3, "how many LINES (scale, too;");
        good("scale 2;", 1);
        good("scale 2;tune 0;", 2);
        String ways = "scale 2;place 0;place 0;" + times("way 0 1;", 109);
        good(ways, 112);
        x = told(ways);
        due("count(9)", x.count(9), 112);
        due("ways", x.count(6), 1);
        good("scale 2;" + times("goes:1=1;", 99), 100);
        x = told("scale 4;" + times("goes:1=1;", 95) + "goes:from+1=to;");
        due("the last of many laws", x.tunes(0, 2), 3);
        due("the last of many laws", x.longNote(0, 3), 3);
        x = told("scale 4;place 0;person at 0;" + times("hears:1=1;", 84) + "hears:note=2;");
        due("the last of many laws", x.person(0, 4), 4);
    }

    private static final String[] OF_EACH_KIND = {"scale 2;tune !;", "scale 2;tune ;", "scale 2;tune 2;", "scale 2;tune 0;tune 0;tune 0;tune 0;tune 0;tune 0;tune 0;"};

    private static void allStays() {
        sentence(3, "all stays with a FAULT)");
        for (int kind = 1; kind <= 4; kind++) {
            BlankNote x = told(CHAIN);
            x.go(0, 1);
            x.image(1);
            x.days(2);
            tray(x, 2, 1, -1, 1, 107);
            List<Long> people = people(x);
            List<Long> text = toldBy(x);
            due("a text of kind " + kind, tell(x, OF_EACH_KIND[kind - 1]), -30 - kind);
            same("the people", people(x), people);
            same("what was told", toldBy(x), text);
            due("lines", x.count(9), 12);
            due("ways", x.count(6), 2);
            due("the tray", x.judge(2, 0), 1);
            due("calls that can be undone", x.count(7), 2);
            due("undo(2)", x.undo(2), 0);
            due("person 0 is back", x.person(0, 0), 0);
            due("the image", x.restore(1), 0);
            due("person 0 is there", x.person(0, 0), 1);
        }
        sentence(3, "-30 less the FAULT");
        for (int kind = 1; kind <= 4; kind++) faulty(OF_EACH_KIND[kind - 1], kind, kind == 4 ? 50 : 13);
        sentence(3, "-30 less the FAULT: a text.");
        BlankNote x = new BlankNote();
        for (int kind = 1; kind <= 4; kind++) due("kind " + kind, tell(x, OF_EACH_KIND[kind - 1]), -30 - kind);
    }

    // ---- promise 3: tokens

    private static boolean isSign(int b) {
        return ";:+-*()[]=<>".indexOf(b) >= 0;
    }

    private static boolean isLetter(int b) {
        return b >= 'a' && b <= 'z';
    }

    private static boolean isDigit(int b) {
        return b >= '0' && b <= '9';
    }

    private static void tokens() {
        sentence(3, "TOKENS, as long as they go on, between them blanks (10, 32): words (small letters), N (1 to 3 digits), the signs ; : + - * ( ) [ ] = < >.");
        for (int b = 0; b < 256; b++) {
            String text = "scale 2;" + (char) b;
            if (b == 10 || b == 32) good(text, 1);
            else faulty(text, isLetter(b) || isDigit(b) || isSign(b) ? 2 : 1, 8);
        }
        for (int b = 0; b < 256; b++) {
            String text = "scale" + (char) b + "2;";
            if (b == 10 || b == 32 || b == '0') good(text, 1);
            else if (isLetter(b)) faulty(text, 2, 0);
            else if (isDigit(b)) faulty(text, 3, 5);
            else faulty(text, isSign(b) ? 2 : 1, 5);
        }
        good("\n scale \n\n 2 \n ; \n", 1);
        good("scale2;tune0 1;place2;place0 1 2 2;way0 1;person at1blank 0ear 9found;hears:note=0or note=1and not who=0;", 7);
        good("scale 02;tune 0 00 000 1 01 001;", 2);
        faulty("scale 2;tune 00 0000;", 1, 16);
        faulty("scale 2;tune 01 001 0001;", 1, 20);
        faulty("scale 2;tune 0 12345678901234567890;", 1, 15);
        faulty("scal e 2;", 2, 0);
        faulty("scalescale 2;", 2, 0);
        faulty("Scale 2;", 1, 0);
        faulty("scaLe 2;", 2, 0);
        good("scale 2;tune 0 1;", 2);
        BlankNote x = told("scale 2;tune 01;");
        due("01 is one number", x.note(0, 0), 1);
        due("and the only one", x.note(0, 1), NONE);
        good("scale 2;hears:0=000;goes:999=999;", 3);
        faulty("scale 2;hears:1000=0;", 1, 14);
        good("scale 2;hears:1=1;goes:1<1;hears:1>1;goes:(1)+1-1*1=1;hears:[1=1];", 6);
    }

    // ---- promise 3: lines

    private static void scale() {
        sentence(3, "scale: how many NOTES, 2 to 10, numbered from 0 on.");
        for (int n = 2; n <= 10; n++) {
            BlankNote x = told("scale " + n + ";tune 0 " + (n - 1) + ";");
            due("notes", x.count(0), n);
            due("the first is there", x.owners(0), 0);
            due("the last is there", x.owners(n - 1), 0);
            due("none behind", x.owners(n), -2);
        }
        for (String n : new String[] {"0", "1", "01", "11", "20", "100", "999"}) faulty("scale " + n + ";", 3, 6);
        sentence(3, "THE VALLEY is a TEXT of at most 900 bytes (without one: 2 NOTES, no TUNES, PLACES, PEOPLE): scale N ; { LINE ; }");
        good("scale 2;", 1);
        faulty("", 2, 0);
        faulty(" ", 2, 1);
        faulty("scale", 2, 5);
        faulty("scale;", 2, 5);
        faulty("scale 2", 2, 7);
        faulty("scale 2:", 2, 7);
        faulty("scale 2 3;", 2, 8);
        faulty("scale scale 2;", 2, 6);
        faulty("scale 2;;", 2, 8);
        faulty("scale 2;2;", 2, 8);
        faulty("scale 2;valley 2;", 2, 8);
        sentence(3, "scale must be told first, and once;");
        faulty("tune 0;scale 2;", 2, 0);
        faulty("place 0;", 2, 0);
        faulty("hears : 1 = 1;scale 2;", 2, 0);
        faulty("2;", 2, 0);
        faulty(";scale 2;", 2, 0);
        faulty("scale 2;scale 2;", 2, 8);
        faulty("scale 2;tune 0;scale 99;", 2, 15);
    }

    private static void tune() {
        sentence(3, "tune: its NOTES, 1 to 9; numbered from 0 on, 6 at most.");
        BlankNote x = told("scale 10;tune 9;tune 9 8 7 6 5 4 3 2 1;");
        due("one note", x.note(0, 0), 9);
        due("no second", x.note(0, 1), NONE);
        for (int i = 0; i < 9; i++) due("nine notes", x.note(1, i), 9 - i);
        due("no tenth", x.note(1, 9), NONE);
        sentence(3, "LINE: tune N { N } | place N { N } | way N N | person at N { FLAG } | hears : TRUTH | goes : TRUTH.");
        faulty("scale 2;tune;", 2, 12);
        faulty("scale 2;tune", 2, 12);
        faulty("scale 2;tune 0", 2, 14);
        faulty("scale 2;tune 0 tune 0;", 2, 15);
        faulty("scale 2;tune:0;", 2, 12);
        faulty("scale 2;tune at 0;", 2, 13);
        sentence(3, "a 10th NOTE, a 5th SOUND; a word of the other law).");
        faulty("scale 2;tune 0 1 0 1 0 1 0 1 0 1;", 2, 31);
        faulty("scale 2;tune 0 1 0 1 0 1 0 1 0 1 0;", 2, 31);
        faulty("scale 2;place 2 2 2 2 2;", 2, 22);
        faulty("scale 2;hears : 1 = from;", 2, 20);
        faulty("scale 2;hears : to = 1;", 2, 16);
        faulty("scale 2;hears : step = 1;", 2, 16);
        for (String w : new String[] {"who", "note", "blank", "ear", "found"}) {
            faulty("scale 2;goes : 1 = " + w + ";", 2, 19);
            good("scale 2;hears : 1 = " + w + ";", 2);
        }
        for (String w : new String[] {"from", "to", "step"}) good("scale 2;goes : 1 = " + w + ";", 2);
        sentence(3, "3 an N out of its bounds");
        for (int n = 2; n <= 10; n++) faulty("scale " + n + ";tune 0 " + n + ";", 3, n == 10 ? 16 : 15);
        faulty("scale 2;tune 999;", 3, 13);
        sentence(3, "4 the first TOKEN of a 7th tune, place, person;");
        x = told("scale 2;" + times("tune 0;", 5) + "tune 1;");
        due("six", x.count(1), 6);
        due("the sixth", x.note(5, 0), 1);
        due("no seventh", x.note(6, 0), -2);
        faulty("scale 2;" + times("tune 0;", 7), 4, 50);
        faulty("scale 2;" + times("tune 0;", 6) + "place 0; tune ;", 4, 59);
        faulty("scale 2;" + times("tune 0;", 6) + "tune", 4, 50);
        faulty("scale 2;" + times("tune 0;", 6) + "tune 0 !", 4, 50);
    }

    private static void place() {
        sentence(3, "place: its SOUNDS, a NOTE each, or as many as there are NOTES: none; 1 to 4 of them, for DAY 0, 1 .., coming round; numbered from 0 on, 6 at most.");
        for (int n : new int[] {2, 10}) {
            BlankNote x = told("scale " + n + ";place " + n + ";place 0 " + (n - 1) + " " + n + " 1;");
            due("none", x.sounds(0, 0), NONE);
            int[] sounds = {0, n - 1, NONE, 1};
            for (int d = 0; d < 9; d++) due("sounds(1, " + d + ")", x.sounds(1, d), sounds[d % 4]);
            faulty("scale " + n + ";place " + (n + 1) + ";", 3, n == 10 ? 15 : 14);
        }
        faulty("scale 2;place;", 2, 13);
        faulty("scale 2;place 0 0 0 0 0;", 2, 22);
        faulty("scale 2;place 0 0 0 0 9;", 2, 22);
        faulty("scale 2;place 0", 2, 15);
        faulty("scale 2;place ear;", 2, 14);
        BlankNote x = told("scale 2;" + times("place 0;", 5) + "place 1;");
        due("six", x.count(2), 6);
        due("the sixth", x.sounds(5, 0), 1);
        due("no seventh", x.sounds(6, 0), -2);
        faulty("scale 2;" + times("place 0;", 7), 4, 56);
        faulty("scale 2;" + times("place 0;", 6) + "place", 4, 56);
    }

    private static void way() {
        sentence(3, "way: between two PLACES told ahead, not one, both ways (once is enough).");
        String places = "scale 2;place 0;place 0;place 0;";
        BlankNote x = told(places + "way 0 2;");
        int[] ways = {4, 0, 1};
        for (int k = 0; k < 3; k++) due("place(" + k + ", 0)", x.place(k, 0), ways[k]);
        due("ways", x.count(6), 1);
        x = told(places + "way 2 0;");
        for (int k = 0; k < 3; k++) due("told the other way round, place(" + k + ", 0)", x.place(k, 0), ways[k]);
        x = told(places + "way 2 0;way 0 2;way 0 2;");
        for (int k = 0; k < 3; k++) due("told twice, place(" + k + ", 0)", x.place(k, 0), ways[k]);
        due("ways told twice", x.count(6), 1);
        sentence(3, "(a PLACE that isn't told, one and the same).");
        faulty(places + "way 3 0;", 3, 36);
        faulty(places + "way 0 3;", 3, 38);
        faulty(places + "way 0 999;", 3, 38);
        faulty(places + "way 0 0;", 3, 38);
        faulty(places + "way 2 2;", 3, 38);
        faulty(places + "way 2 002;", 3, 38);
        faulty("scale 2;way 0 1;", 3, 12);
        faulty("scale 2;way 0 1;place 0;place 0;", 3, 12);
        faulty("scale 2;place 0;way 0 1;place 0;", 3, 22);
        good("scale 2;place 0;place 0;way 0 1;place 0;way 2 0;", 6);
        faulty(places + "way;", 2, 35);
        faulty(places + "way 0;", 2, 37);
        faulty(places + "way 0 1 2;", 2, 40);
        faulty(places + "way 0 1", 2, 39);
        x = told(FULL);
        due("a way between each two of six", x.count(6), 15);
        for (int k = 0; k < 6; k++) due("place(" + k + ", 0)", x.place(k, 0), 63 & ~(1 << k));
    }

    private static void person() {
        sentence(3, "person: at a PLACE told ahead; blank: a NOTE (none); ear 0 to 9 (0); found: it has FOUND; numbered from 0 on, 6 at most.");
        String place = "scale 3;place 0;";
        BlankNote x = told(place + "place 1;person at 1;person at 0 blank 0 ear 9;person at 0 found blank 2;");
        int[][] people = {{1, NONE, 0, 0}, {0, 0, 9, 0}, {0, 2, 0, 1}};
        for (int p = 0; p < 3; p++) for (int w = 0; w < 4; w++) due("person(" + p + ", " + w + ")", x.person(p, w), people[p][w]);
        sentence(3, "FLAG: blank N | ear N | found.");
        faulty(place + "person at 0 blank;", 2, 33);
        faulty(place + "person at 0 ear;", 2, 31);
        faulty(place + "person at 0 found 1;", 2, 34);
        faulty(place + "person at 0 0;", 2, 28);
        faulty(place + "person at;", 2, 25);
        faulty(place + "person 0;", 2, 23);
        faulty(place + "person at 0 at 0;", 2, 28);
        faulty(place + "person at 0 blank 0", 2, 35);
        faulty(place + "person at 0 who;", 2, 28);
        sentence(3, "3 an N out of its bounds (a PLACE that isn't told, one and the same).");
        faulty("scale 3;person at 0;", 3, 18);
        faulty("scale 3;person at 0;place 0;", 3, 18);
        faulty(place + "person at 1;place 0;", 3, 26);
        faulty(place + "person at 0 blank 3;", 3, 34);
        faulty(place + "person at 0 ear 10;", 3, 32);
        faulty(place + "person at 0 ear 999;", 3, 32);
        good(place + "person at 0 blank 2 ear 9;person at 0 blank 0 ear 0;", 4);
        sentence(3, "Later ones of a flag strike; later ones of hears, goes, too.");
        x = told(place + "person at 0 blank 0 ear 8 found blank 2 ear 3 blank 1 found ear 0;");
        int[] last = {0, 1, 0, 1};
        for (int w = 0; w < 4; w++) due("person(0, " + w + ")", x.person(0, w), last[w]);
        x = told(place + "person at 0;hears : note = 0;goes : to = 0;person at 0;hears : note = 1;goes : 1 = 1;hears : note = 2;goes : to = from;");
        due("the last hears", x.person(0, 4), 4);
        due("the last goes", x.tunes(0, 2), 3);
        sentence(3, "4 the first TOKEN of a 7th tune, place, person; a seventh of not [ (.");
        String six = place + times("person at 0;", 5) + "person at 0 ear 6;";
        x = told(six);
        due("six", x.count(3), 6);
        due("the sixth", x.person(5, 2), 6);
        due("no seventh", x.person(6, 2), -2);
        faulty(six + "person at 0;", 4, six.length());
        faulty(six + "person", 4, six.length());
        faulty(six + "person at 9 !", 4, six.length());
    }

    // ---- promise 3: faults

    private static void faults() {
        sentence(3, "FAULTS, the first along the text, of one TOKEN the least kind:");
        faulty("scale 2;tune 2 !", 3, 13);
        faulty("scale 2;tune ! 2", 1, 13);
        faulty("scale 2;tune 2 ;;", 3, 13);
        faulty("scale 2;tune ; 2", 2, 13);
        faulty("scale 1;!", 3, 6);
        faulty("scale 2;;!", 2, 8);
        faulty("scale 2;tune 0 1 0 1 0 1 0 1 0 2;", 2, 31);
        faulty("scale 2;tune 0 1 0 1 0 1 0 1 0 0002;", 1, 31);
        faulty("scale 2;place 0 0 0 0 3;", 2, 22);
        faulty("scale 2;place 0 0 0 0 3333;", 1, 22);
        faulty("scale 1234;", 1, 6);
        faulty("1234", 1, 0);
        faulty("999", 2, 0);
        faulty("scale 2;" + times("tune 0;", 5) + "tune 0 tune 0;", 2, 50);
        faulty("scale 2;" + times("place 0;", 5) + "place 0 place 0;", 2, 56);
        faulty("scale 2;place 0;" + times("person at 0;", 5) + "person at 0 person at 0;", 2, 88);
        faulty("scale 2;goes:((((((1[1=1])))))))=1;", 2, 20);
        faulty("scale 2;goes:((((((not 1=1))))))=1;", 2, 19);
        faulty("scale 2;goes:((((((9999))))))=1;", 1, 19);
        sentence(3, "1 no TOKEN begins so (4 digits and more: at their first).");
        faulty("scale 2;tune 0000;", 1, 13);
        faulty("scale 2;tune 0 00000;", 1, 15);
        faulty("scale 2;tune 000 1 9999", 1, 19);
        faulty("scale 2;tune 0\t1;", 1, 14);
        faulty("scale 2;tune 0\r\n1;", 1, 14);
        faulty("scale 2;tune 0_1;", 1, 14);
        faulty("scale 2;tune 0, 1;", 1, 14);
        faulty("scale 2;hears:note>=1;!", 2, 19);
        faulty("scale 2;hears:note/1=1;", 1, 18);
        faulty("#", 1, 0);
        sentence(3, "2 it can't stand there (the end: the text's length;");
        String[] cut = {"scale", "scale 2", "scale 2;tune", "scale 2;tune 0", "scale 2;place 0", "scale 2;place 0;person", "scale 2;place 0;person at",
            "scale 2;place 0;person at 0", "scale 2;place 0;person at 0 blank", "scale 2;hears", "scale 2;hears:", "scale 2;hears:1", "scale 2;hears:1=",
            "scale 2;hears:1=1", "scale 2;hears:1=1 or", "scale 2;hears:not", "scale 2;hears:[", "scale 2;hears:[1=1", "scale 2;hears:(1", "scale 2;hears:1+"};
        for (String text : cut) {
            faulty(text, 2, text.length());
            faulty(text + "  \n", 2, text.length() + 3);
        }
    }

    // ---- promise 3: laws

    private static void depth() {
        sentence(3, "At most six of not [ ( within one another.");
        good("scale 2;hears:" + times("not ", 6) + "1=1;", 2);
        faulty("scale 2;hears:" + times("not ", 7) + "1=1;", 4, 14 + 24);
        good("scale 2;hears:" + times("[", 6) + "1=1" + times("]", 6) + ";", 2);
        faulty("scale 2;hears:" + times("[", 7) + "1=1" + times("]", 7) + ";", 4, 14 + 6);
        good("scale 2;hears:" + times("(", 6) + "1" + times(")", 6) + "=1;", 2);
        faulty("scale 2;hears:" + times("(", 7) + "1" + times(")", 7) + "=1;", 4, 14 + 6);
        good("scale 2;goes:1=" + times("(", 6) + "1" + times(")", 6) + ";", 2);
        faulty("scale 2;goes:1=" + times("(", 7) + "1" + times(")", 7) + ";", 4, 15 + 6);
        good("scale 2;goes:not[not[((1))=((1))]];", 2);
        faulty("scale 2;goes:not[not[(((1)))=1]];", 4, 23);
        faulty("scale 2;goes:not[not[((1))=(((1)))]];", 4, 29);
        faulty("scale 2;goes:not not not[[[not 1=1]]];", 4, 27);
        faulty("scale 2;goes:not not not[[[(1)=1]]];", 4, 27);
        faulty("scale 2;goes:not not not[[[[1=1]]]];", 4, 27);
        faulty("scale 2;goes:1=1 or not not not[[[1=1 and(1)=1]]];", 4, 41);
        good("scale 2;goes:not not not not not(1)=(1)and[1=1];", 2);
        good("scale 2;goes:" + times("(1)+", 20) + "(1)=((21));", 2);
        good("scale 2;goes:" + times("not 1=1 and ", 20) + "[1=1];", 2);
        good("scale 2;goes:" + times("[1=1] or ", 20) + "not[1=1];", 2);
        good("scale 2;goes:[[[[[[1=1]]]]]]or[[[[[[1=1]]]]]]and not not not not not[1=1];goes:((((((1))))))*((((((1))))))=1;", 3);
        sentence(3, "a seventh of not [ (.");
        faulty("scale 2;hears:not not not not not not not", 4, 38);
        faulty("scale 2;hears:[[[[[[[", 4, 20);
        faulty("scale 2;hears:(((((((", 4, 20);
        faulty("scale 2;hears:[[[[[[)", 2, 20);
        faulty("scale 2;hears:not not not not not not ]", 2, 38);
    }

    private static void grammar() {
        sentence(3, "TRUTH: BOTH { or BOTH }; BOTH: UNIT { and UNIT }; UNIT: not UNIT, [ TRUTH ], or SUM, one of = < >, SUM. SUM: TERM { + TERM | - TERM }; TERM: ATOM { * ATOM }; ATOM: N, ( SUM ), in hears who, note, blank, ear, found, in goes from, to, step.");
        String h = "scale 2;hears:";
        faulty(h + ";", 2, 14);
        faulty("scale 2;hears 1=1;", 2, 14);
        faulty("scale 2;goes;", 2, 12);
        faulty(h + "1;", 2, 15);
        faulty(h + "=1;", 2, 14);
        faulty(h + "1=;", 2, 16);
        faulty(h + "1=1=1;", 2, 17);
        faulty(h + "1<>1;", 2, 16);
        faulty(h + "1=1 1;", 2, 18);
        faulty(h + "1=1 or;", 2, 20);
        faulty(h + "or 1=1;", 2, 14);
        faulty(h + "1=1 and;", 2, 21);
        faulty(h + "1=1 and or 1=1;", 2, 22);
        faulty(h + "1=1 not 1=1;", 2, 18);
        faulty(h + "not;", 2, 17);
        faulty(h + "not note;", 2, 22);
        faulty(h + "[];", 2, 15);
        faulty(h + "[1=1;", 2, 18);
        faulty(h + "[1];", 2, 16);
        faulty(h + "[1=1]];", 2, 19);
        faulty(h + "[1=1]=1;", 2, 19);
        faulty(h + "(1=1);", 2, 16);
        faulty(h + "();", 2, 15);
        faulty(h + "(1;", 2, 16);
        faulty(h + "(1))=1;", 2, 17);
        faulty(h + "1+;", 2, 16);
        faulty(h + "1+-1=0;", 2, 16);
        faulty(h + "-1=0;", 2, 14);
        faulty(h + "1*;", 2, 16);
        faulty(h + "1**1=1;", 2, 16);
        faulty(h + "*1=1;", 2, 14);
        faulty(h + "1 1=1;", 2, 16);
        faulty(h + "1(1)=1;", 2, 15);
        faulty(h + "what=1;", 2, 14);
        faulty(h + "notes=1;", 2, 14);
        faulty(h + "scale=1;", 2, 14);
        faulty(h + "1=1 hears;", 2, 18);
        faulty(h + "1=1:", 2, 17);
    }

    /** What the laws mean: what binds closer, and what stands further left, is first. */
    private static void meaning() {
        sentence(5, "TRUTH: BOTH { or BOTH }; BOTH: UNIT { and UNIT }; UNIT: not UNIT, [ TRUTH ], or SUM, one of = < >, SUM. SUM: TERM { + TERM | - TERM }; TERM: ATOM { * ATOM };");
        heard("not note = 0", 14, 14);
        heard("not not note = 0", 1, 1);
        heard("not not not not not not note = 0", 1, 1);
        heard("not not not not not note = 0", 14, 14);
        heard("not note = 0 and note < 2", 2, 2);
        heard("not note = 0 or note = 0", 15, 15);
        heard("not [note = 0 or note = 1]", 12, 12);
        heard("not [not note = 2]", 4, 4);
        heard("note = 0 or note = 1 and note = 2", 1, 1);
        heard("note = 1 and note = 2 or note = 0", 1, 1);
        heard("[note = 0 or note = 1] and note = 1", 2, 2);
        heard("note = 0 or note = 2 or note = 3", 13, 13);
        heard("note > 0 and note > 1 and note < 3", 4, 4);
        heard("note < 2", 3, 3);
        heard("note > 2", 8, 8);
        heard("2 > note", 3, 3);
        heard("10 - 3 - 2 = note + 2", 8, 8);
        heard("10 - (3 - 2) = note + 6", 8, 8);
        heard("1 + note * 2 = 5", 4, 4);
        heard("(1 + note) * 2 = 6", 4, 4);
        heard("2 * note + 1 = 7 - note * 0", 8, 8);
        heard("10 - 2 * 3 = note + 1", 8, 8);
        heard("10 - 2 + 3 = note + 8", 8, 8);
        heard("0 - note < 0 - 1", 12, 12);
        heard("note * note * note = 8", 4, 4);
        String or = "1 = 2 or 1 = 1 and [";
        String plus = "0 + 1 * (";
        heard(or.repeat(6) + "note = 0 + 1 * 1" + "]".repeat(6), 2, 2);
        heard("1 = 2 or 1 = 1 and note = " + plus.repeat(6) + "0 + 1 * 2" + ")".repeat(6), 4, 4);
        heard(or.repeat(5) + "1 = 2 or 1 = 1 and 0 + 1 * (0 + 1 * note) = 0 + 1 * (0 + 1 * 3)" + "]".repeat(5), 8, 8);
    }

    private static void heard(String law, int by0, int by1) {
        BlankNote x = told("scale 4;place 0;person at 0;person at 0 blank 1 ear 7 found;hears : " + law + ";");
        due("by 0: " + law, x.person(0, 4), by0);
        due("by 1: " + law, x.person(1, 4), by1);
    }

    private static void words() {
        sentence(5, "In hears: who: the PERSON's number, note, blank: numbers (without one: as many as there are NOTES), ear, found: 1 if it has FOUND, else 0.");
        heard("who = 0", 15, 0);
        heard("who = 1", 0, 15);
        heard("note = 0", 1, 1);
        heard("note = 3", 8, 8);
        heard("note = 4", 0, 0);
        heard("blank = 4", 15, 0);
        heard("blank = 1", 0, 15);
        heard("ear = 0", 15, 0);
        heard("ear = 7", 0, 15);
        heard("found = 0", 15, 0);
        heard("found = 1", 0, 15);
        for (int n : new int[] {2, 10}) {
            BlankNote x = told("scale " + n + ";place 0;person at 0;hears:blank = " + n + ";");
            due("without a blank: as many as notes", x.person(0, 4), (1 << n) - 1);
            x.blank(0, n - 1);
            due("with the last one", x.person(0, 4), 0);
            x.blank(0, NONE);
            due("without one again", x.person(0, 4), (1 << n) - 1);
        }
        sentence(33, "In goes: from, to: a NOTE of a tune and the next one, step: how far they are apart.");
        int[] pairs = {3, 3, 1, 1, 2, 6, 3};
        String[] laws = {"from = 2", "to = 1", "step = 2 and from > to", "step = 2 and from < to", "step = 2", "step > 0", "step = 0"};
        for (int i = 0; i < laws.length; i++) due(laws[i], told("scale 3;goes:" + laws[i] + ";").tunes(0, 2), pairs[i]);
        due("apart by nine", told("scale 10;goes:step = 9;").tunes(0, 2), 2);
        due("apart by ten: none", told("scale 10;goes:step > 9;").tunes(0, 2), 0);
        due("from comes ahead of to", told("scale 3;goes:from = 0 and to = 2;").throughNote(0, 5, 0), 0);
    }

    private static void kept() {
        sentence(5, "Each + - * is kept from -1,000,000 to 1,000,000.");
        String million = "(999+1)*(999+1)";
        String below = "(0-" + million + ")";
        heard(million + "-1=999*(999+1)+999", 15, 15);
        heard(million + "-1<" + million, 15, 15);
        heard(million + "+1=" + million, 15, 15);
        heard(million + "+1-1<" + million, 15, 15);
        heard(million + "+999-999=" + "999*(999+1)+1", 15, 15);
        heard(million + "+" + million + "=" + million, 15, 15);
        heard(million + "*(999+1)=" + million, 15, 15);
        heard("(" + million + ")*(" + million + ")=" + million, 15, 15);
        heard(below + "+1>" + below, 15, 15);
        heard(below + "-1=" + below, 15, 15);
        heard(below + "-1+1>" + below, 15, 15);
        heard(below + "-" + million + "=" + below, 15, 15);
        heard(below + "+" + below + "=" + below, 15, 15);
        heard(below + "*2=" + below, 15, 15);
        heard(below + "*(" + million + ")=" + below, 15, 15);
        heard(below + "*" + below + "=" + million, 15, 15);
        heard(below + "<0-999*(999+1)-999", 15, 15);
        heard(below + "<0-999*(999+1)-998", 15, 15);
        heard(million + ">999*(999+1)+999", 15, 15);
        heard(million + "+2-1=999*(999+1)+999", 15, 15);
        heard("0*(" + million + "*2)=0", 15, 15);
        heard(million + "*2-" + million + "=0", 15, 15);
        sentence(5, "A PERSON HEARS a NOTE, if the law hears holds (without one: if it isn't its blank, or it has FOUND).");
        heard("1 = 1", 15, 15);
        heard("1 = 0", 0, 0);
        BlankNote x = told("scale 4;place 0;person at 0;person at 0 blank 0;person at 0 blank 3;person at 0 blank 3 found;");
        int[] bits = {15, 14, 7, 15};
        for (int p = 0; p < 4; p++) due("person(" + p + ", 4)", x.person(p, 4), bits[p]);
        sentence(33, "One NOTE may follow another one, if the law goes holds (without one: always).");
        due("always", told("scale 4;").tunes(0, 2), 16);
        due("a law that always holds", told("scale 4;goes:1=1;").tunes(0, 2), 16);
        due("a law that never holds", told("scale 4;goes:1=0;").tunes(0, 2), 0);
        due("never, but for one note alone", told("scale 4;goes:1=0;").tunes(0, 1), 4);
    }

    // ---- promise 4

    private static void fault() {
        sentence(4, "Of the latest valley() that was read, what 0: its FAULT (0), 1: its place (NONE). NONE for others.");
        BlankNote x = new BlankNote();
        due("none was read: fault(0)", x.fault(0), 0);
        due("none was read: fault(1)", x.fault(1), NONE);
        for (int kind = 1; kind <= 4; kind++) {
            tell(x, OF_EACH_KIND[kind - 1]);
            due("fault(0)", x.fault(0), kind);
            due("fault(1)", x.fault(1), kind == 4 ? 50 : 13);
            for (int what : new int[] {-1, 2, 3, MIN, MAX}) due("fault(" + what + ")", x.fault(what), NONE);
        }
        due("refused, not read", x.valley(-1), -3);
        due("refused, not read", x.valley(21), -3);
        feed(x, "scale 2;");
        x.days(1);
        due("fault(0) stays", x.fault(0), 4);
        due("fault(1) stays", x.fault(1), 50);
        due("read without a fault", x.valley(8), 1);
        due("fault(0)", x.fault(0), 0);
        due("fault(1)", x.fault(1), NONE);
        for (int what : new int[] {-1, 2, 3, MIN, MAX}) due("fault(" + what + ")", x.fault(what), NONE);
        due("a fault at place 0", tell(x, ";"), -32);
        due("fault(1)", x.fault(1), 0);
    }

    public static void main(String[] args) {
        newObject();
        feeding();
        fullTape();
        firstBytes();
        anew();
        allStays();
        tokens();
        scale();
        tune();
        place();
        way();
        person();
        faults();
        depth();
        grammar();
        meaning();
        words();
        kept();
        fault();
        end();
    }
}
