import java.util.List;

/** Each promise of the document by hand: ordinary calls, edges, and calls that are refused. */
public final class PromiseTest extends Bench {
    private static void p1() {
        BlankNote x = new BlankNote();
        int[] counts = {2, 0, 0, 0, 0, 0, 0, 0, 0, 0};
        for (int w = 0; w < 10; w++) due("count(" + w + ")", x.count(w), counts[w]);
        due("fault(0)", x.fault(0), 0);
        due("fault(1)", x.fault(1), -1);
        for (int t = 0; t < 4; t++) due("perform(" + t + ")", x.perform(t), -6);
        due("restore(0)", x.restore(0), -5);
        due("restore(1)", x.restore(1), -5);
        due("longest(0)", x.longest(0), 2);
        due("tunes(0, 15)", x.tunes(0, 15), 32768);
        due("NONE", BlankNote.NONE, -1);
    }

    private static void p2() {
        BlankNote x = new BlankNote();
        due("feed", x.feed(0x7363616c, 0x6520323b, 0x20202020, 0x20202020, 0x20202020), 20);
        due("valley(8)", x.valley(8), 1);
        for (int i = 1; i <= 45; i++) due("feed " + i, x.feed(0x20202020, -1, 0, 1, 2), 20 * i);
        List<Long> before = seen(x);
        due("a 46th feed", x.feed(0, 0, 0, 0, 0), -5);
        unchanged("feed", x, before);
        due("valley(900)", x.valley(900), -31);
        due("fault(1): the first 0xff", x.fault(1), 4);
        due("feed", x.feed(0x20202020, 0x20202020, 0x20202020, 0x20202020, 0x2020207f), 20);
        due("valley(20)", x.valley(20), -31);
        due("fault(1): the last byte", x.fault(1), 19);
    }

    private static void p3() {
        BlankNote x = told(CHAIN);
        due("count(9)", x.count(9), 12);
        x.days(4);
        x.ear(0, 3);
        feed(x, "scale 5;tune 4;nonsense");
        List<Long> before = seen(x);
        due("valley(-1)", x.valley(-1), -3);
        due("valley(41)", x.valley(41), -3);
        due("valley(max)", x.valley(Integer.MAX_VALUE), -3);
        unchanged("valley refused", x, before);
        due("valley(15): the rest is gone", x.valley(15), 2);
        int[] counts = {5, 1, 0, 0, 0, 0, 0, 0, 0, 2};
        for (int w = 0; w < 10; w++) due("count(" + w + ")", x.count(w), counts[w]);
        due("valley(0)", x.valley(0), -32);
        due("fault(1)", x.fault(1), 0);
        x = told(CHAIN);
        due("person 1 ear", x.person(1, 2), 5);
        tell(x, "scale 2;place 0;person at 0;");
        due("ears anew", x.person(0, 2), 0);
        due("blank anew", x.person(0, 1), -1);
        texts();
        faults();
        laws();
    }

    private static void texts() {
        good("scale 2;", 1);
        good("scale 10;", 1);
        good(" \n scale\n010 ; ", 1);
        good("scale2;tune0 1;place2;place0 1 2 2;way0 1;way1 0;person at1blank 0ear 9found;", 7);
        good("scale 2;tune 0 1 0 1 0 1 0 1 0;", 2);
        good("scale 2;tune 0;tune 0;tune 0;tune 0;tune 0;tune 0;", 7);
        good("scale 2;hears:[[[[[(1)=1]]]]];goes:not[not(((to)))=from];", 3);
        good("scale 2;hears:not not not not not not 1=1 and not 1=1 or[1=2];", 2);
        good("scale 2;goes:1=1;goes:2=2;hears:who*note+blank-ear*found>999;", 4);
        BlankNote x = told("scale 3;place 0;person at 0 blank 0 blank 2 ear 1 ear 4 found found;goes : from = to;goes : to = 1;hears : 1 = 0;hears : note = 2;");
        due("the later blank", x.person(0, 1), 2);
        due("the later ear", x.person(0, 2), 4);
        due("found", x.person(0, 3), 1);
        due("the later hears", x.person(0, 4), 4);
        due("the later goes", x.tunes(0, 2), 3);
        x = told("scale 2;place 0;place 0;place 0;way 0 1;way 1 0;way 0 1;way 2 1;");
        due("ways, once each", x.count(6), 2);
    }

    private static void faults() {
        faulty("", 2, 0);
        faulty("   ", 2, 3);
        faulty("scale", 2, 5);
        faulty("scale 2 ", 2, 8);
        faulty("scale 1;", 3, 6);
        faulty("scale 11;", 3, 6);
        faulty("scale 0002;", 1, 6);
        faulty("scale 2;tune 99999;", 1, 13);
        faulty("scale 2;\t", 1, 8);
        faulty("scale 2;Tune 0;", 1, 8);
        faulty("scale 2;tune 0!", 1, 14);
        faulty("scale 2;tune 5!", 3, 13);
        faulty("scale 2;az;", 2, 8);
        faulty("scale 2;{", 1, 8);
        faulty("scale 2;`", 1, 8);
        faulty("scale 2;/", 1, 8);
        faulty("scale 2;tune 0,", 1, 14);
        faulty("scale 2;\u00e9", 1, 8);
        faulty("scale 2 2;", 2, 8);
        faulty("scale 2;;", 2, 8);
        faulty("scale 2;scale 2;", 2, 8);
        faulty("scales 2;", 2, 0);
        faulty("place 0;scale 2;", 2, 0);
        faulty("scale 2;tune;", 2, 12);
        faulty("scale 2;tune 2;", 3, 13);
        faulty("scale 2;tune 0 1 0 1 0 1 0 1 0 1;", 2, 31);
        faulty("scale 2;tune 0 1 0 1 0 1 0 1 0 99;", 2, 31);
        faulty("scale 2;tune 0 1 0 1 0 1 0 1 0 9999;", 1, 31);
        faulty("scale 2;tune 0;tune 0;tune 0;tune 0;tune 0;tune 0;tune", 4, 50);
        faulty("scale 2;place 3;", 3, 14);
        faulty("scale 2;place 0 1 2 0 1;", 2, 22);
        faulty("scale 2;place 0;place 0;place 0;place 0;place 0;place 0;place 0;", 4, 56);
        faulty("scale 2;place 0;way 0 0;", 3, 22);
        faulty("scale 2;place 0;place 0;way 0 2;", 3, 30);
        faulty("scale 2;place 0;place 0;way 2 0;", 3, 28);
        faulty("scale 2;place 0;place 0;way 1 1;", 3, 30);
        faulty("scale 2;place 0;place 0;way 0 1 0;", 2, 32);
        faulty("scale 2;person at 0;place 0;", 3, 18);
        faulty("scale 2;place 0;person 0;", 2, 23);
        faulty("scale 2;place 0;person at 0 blank;", 2, 33);
        faulty("scale 2;place 0;person at 0 blank 2;", 3, 34);
        faulty("scale 2;place 0;person at 0 ear 10;", 3, 32);
        faulty("scale 2;place 0;person at 0 found 1;", 2, 34);
        faulty("scale 2;place 0;person at 0 found", 2, 33);
        String six = "scale 2;place 0;person at 0;person at 0;person at 0;person at 0;person at 0;person at 0;";
        good(six, 8);
        faulty(six + "person", 4, six.length());
        faulty("scale 2;hears 1=1;", 2, 14);
        faulty("scale 2;hears :;", 2, 15);
        faulty("scale 2;hears : 1 = 1", 2, 21);
        faulty("scale 2;hears : 1 = 1 1;", 2, 22);
        faulty("scale 2;hears : from = 1;", 2, 16);
        faulty("scale 2;goes : found = 1;", 2, 15);
        faulty("scale 2;goes : 1 = [1 = 1];", 2, 19);
        faulty("scale 2;goes : (1 = 1);", 2, 18);
        faulty("scale 2;goes : [1];", 2, 17);
        faulty("scale 2;goes : 1 = 1 = 1;", 2, 21);
        faulty("scale 2;goes : 1 + not 1 = 1;", 2, 19);
        faulty("scale 2;goes : not;", 2, 18);
        faulty("scale 2;goes : 1 = 1 or;", 2, 23);
        faulty("scale 2;goes : 1 = -1;", 2, 19);
        faulty("scale 2;goes : 1 = 1000;", 1, 19);
        faulty("scale 2;goes:[[[[[[[1=1]]]]]]];", 4, 19);
        faulty("scale 2;goes:[[[not((1+(2*3)))=1]]];", 4, 23);
        faulty("scale 2;goes:[[[not((1(2*3)))=1]]];", 2, 22);
        faulty("scale 2;goes:not not not not not not not", 4, 37);
    }

    private static String hears(String law) {
        return "scale 4;place 0;person at 0;person at 0 blank 1 ear 7 found;hears : " + law + ";";
    }

    private static void heard(String law, int by0, int by1) {
        BlankNote x = told(hears(law));
        due("by 0: " + law, x.person(0, 4), by0);
        due("by 1: " + law, x.person(1, 4), by1);
    }

    private static void laws() {
        heard("1 = 1", 15, 15);
        heard("who = note", 1, 2);
        heard("blank = 4", 15, 0);
        heard("blank = 1", 0, 15);
        heard("ear = 7", 0, 15);
        heard("found = 1", 0, 15);
        heard("found = 0", 15, 0);
        heard("note * 2 + 1 > 4", 12, 12);
        heard("1 + note * 2 > 4", 12, 12);
        heard("(1 + note) * 2 > 4", 12, 12);
        heard("(1 + note) * 2 > 3", 14, 14);
        heard("10 - 3 - 2 = 5", 15, 15);
        heard("10 - (3 - 2) = 9", 15, 15);
        heard("0 - note < 0", 14, 14);
        heard("note = 0 or note = 1 and note = 2", 1, 1);
        heard("[note = 0 or note = 1] and note = 1", 2, 2);
        heard("not note = 0 and note < 2", 2, 2);
        heard("not [note = 0 and note < 2]", 14, 14);
        heard("not note = 0 or note = 0", 15, 15);
        heard("not not note = 3", 8, 8);
        heard("999 * 999 * 999 = 999 * 999 + 999 + 999 + 1", 15, 15);
        heard("999 * 999 * 999 = 999 * 999 + 999 + 999", 0, 0);
        heard("999 * 999 + 999 + 999 + 1 = 999 * 999 + 999 + 999", 0, 0);
        heard("999 * 999 + 999 + 999 + 2 = 999 * 999 + 999 + 999 + 1", 15, 15);
        heard("999 * 999 * 2 - 999 = 999 * 999 + 999 + 1", 15, 15);
        heard("999 * 999 * 999 - 999 * 999 = 999 + 999 + 1", 15, 15);
        heard("0 - 999 * 999 * 999 - 999 + 999 * 999 = 0 - 999 - 999 - 1", 15, 15);
        heard("(0 - 999 * 999) * 999 + 999 * 999 = 0 - 999 - 999 - 1", 15, 15);
        heard("note<2+1and note>0", 6, 6);
        String or = "1 = 2 or 1 = 1 and [";
        String plus = "0 + 1 * (";
        heard(or.repeat(6) + "note = 0 + 1 * 1" + "]".repeat(6), 2, 2);
        heard("1 = 2 or 1 = 1 and note = " + plus.repeat(6) + "0 + 1 * 2" + ")".repeat(6), 4, 4);
        heard(or.repeat(3) + "1 = 2 or 1 = 1 and note = " + plus.repeat(3) + "0 + 1 * 3" + ")".repeat(3) + "]".repeat(3), 8, 8);
    }

    private static void p4() {
        BlankNote x = new BlankNote();
        due("fault(2)", x.fault(2), -1);
        due("fault(-1)", x.fault(-1), -1);
        due("a faulty text", tell(x, "scale 2;way 3 4;"), -33);
        due("fault(0)", x.fault(0), 3);
        due("fault(1)", x.fault(1), 12);
        due("valley(5), refused", x.valley(5), -3);
        due("fault(0) of the latest that was read", x.fault(0), 3);
        due("fault(1)", x.fault(1), 12);
        due("a good text", tell(x, "scale 2;"), 1);
        due("fault(0)", x.fault(0), 0);
        due("fault(1)", x.fault(1), -1);
    }

    private static void p5() {
        BlankNote x = told(CHAIN);
        int[][] want = {{0, 2, 0, 0, 11}, {1, 3, 5, 0, 7}, {2, -1, 0, 0, 15}};
        for (int p = 0; p < 3; p++) for (int w = 0; w < 5; w++) due("person(" + p + ", " + w + ")", x.person(p, w), want[p][w]);
        for (int p : new int[] {-1, 3, 6, 99}) due("person(" + p + ", 0)", x.person(p, 0), -2);
        for (int w : new int[] {-1, 5, 99}) due("person(0, " + w + ")", x.person(0, w), -2);
        x.go(0, 1);
        x.days(2);
        due("person(0, 0)", x.person(0, 0), 1);
        due("person(0, 3)", x.person(0, 3), 1);
        due("person(0, 4): found, it hears all", x.person(0, 4), 15);
        due("person(1, 3): not yet", x.person(1, 3), 0);
    }

    private static void p6() {
        BlankNote x = told(CHAIN);
        int[][] want = {{0, -1, 0, -1, 0, -1}, {1, 2, 3, 1, 2, 3}, {2, 2, 2, 2, 2, 2}};
        for (int k = 0; k < 3; k++) for (int d = 0; d < 6; d++) due("sounds(" + k + ", " + d + ")", x.sounds(k, d), want[k][d]);
        due("sounds(1, max)", x.sounds(1, Integer.MAX_VALUE), want[1][Integer.MAX_VALUE % 3]);
        due("sounds(1, -1)", x.sounds(1, -1), -3);
        due("sounds(3, -1)", x.sounds(3, -1), -2);
        due("sounds(-1, 0)", x.sounds(-1, 0), -2);
        x.days(1);
        due("by a told day, not today", x.sounds(1, 0), 1);
    }

    private static void p7() {
        BlankNote x = told(CHAIN);
        int[][] want = {{2, 1, 2}, {5, 2, 3}, {2, 4, 1}};
        for (int k = 0; k < 3; k++) for (int w = 0; w < 3; w++) due("place(" + k + ", " + w + ")", x.place(k, w), want[k][w]);
        x.go(0, 1);
        due("place(0, 1)", x.place(0, 1), 0);
        due("place(1, 1)", x.place(1, 1), 3);
        due("place(0, 3)", x.place(0, 3), -2);
        due("place(0, -1)", x.place(0, -1), -2);
        due("place(3, 0)", x.place(3, 0), -2);
        due("place(-1, 0)", x.place(-1, 0), -2);
    }

    private static void p8() {
        BlankNote x = told("scale 10;tune 9 8 7 6 5 4 3 2 1;tune 0;");
        for (int i = 0; i < 9; i++) due("note(0, " + i + ")", x.note(0, i), 9 - i);
        due("note(0, 9)", x.note(0, 9), -1);
        due("note(1, 0)", x.note(1, 0), 0);
        due("note(1, 1)", x.note(1, 1), -1);
        due("note(1, max)", x.note(1, Integer.MAX_VALUE), -1);
        due("note(1, -1)", x.note(1, -1), -3);
        due("note(2, -1)", x.note(2, -1), -2);
        due("note(-1, 0)", x.note(-1, 0), -2);
    }

    private static void p9() {
        BlankNote x = told(CHAIN);
        int[][] want = {{4, 8, 0}, {0, 3, 0}};
        for (int t = 0; t < 2; t++) for (int p = 0; p < 3; p++) due("steps(" + t + ", " + p + ")", x.steps(t, p), want[t][p]);
        due("steps(2, 0)", x.steps(2, 0), -2);
        due("steps(0, 3)", x.steps(0, 3), -2);
        due("steps(-1, 0)", x.steps(-1, 0), -2);
        due("steps(0, -1)", x.steps(0, -1), -2);
    }

    private static void p10() {
        BlankNote x = told(CHAIN);
        int[] want = {3, 2, 0, 0, 3, 2, 0, 0};
        for (int s = 0; s < 8; s++) due("whole(" + s + ")", x.whole(s), want[s]);
        due("whole(8)", x.whole(8), -3);
        due("whole(-1)", x.whole(-1), -3);
        due("whole(min)", x.whole(Integer.MIN_VALUE), -3);
    }

    private static void p11() {
        BlankNote x = told(CHAIN);
        int[] want = {0, 0, 1, 2};
        for (int n = 0; n < 4; n++) due("owners(" + n + ")", x.owners(n), want[n]);
        due("owners(4)", x.owners(4), -2);
        due("owners(-1)", x.owners(-1), -2);
        x.blank(2, 2);
        due("owners(2)", x.owners(2), 5);
    }

    private static void p12() {
        BlankNote x = told(CHAIN);
        List<Long> before = seen(x);
        due("go(3, 0)", x.go(3, 0), -11);
        due("go(-1, 0)", x.go(-1, 0), -11);
        due("go(0, 3)", x.go(0, 3), -11);
        due("go(0, -1)", x.go(0, -1), -11);
        due("go(0, 2): no way", x.go(0, 2), -12);
        due("go(0, 0): it is there", x.go(0, 0), -12);
        unchanged("go refused", x, before);
        due("go(0, 1)", x.go(0, 1), 1);
        due("go(0, 2)", x.go(0, 2), 2);
        x.days(1);
        due("go(1, 0): none today", x.go(1, 0), -1);
        due("go(1, 1)", x.go(1, 1), 2);
        due("count(7)", x.count(7), 5);
        due("nobody found by going", x.count(4), 1);
    }

    private static void p13() {
        BlankNote x = told(CHAIN);
        List<Long> before = seen(x);
        due("days(0)", x.days(0), -3);
        due("days(-1)", x.days(-1), -3);
        due("days(100)", x.days(100), -3);
        unchanged("days refused", x, before);
        due("days(2)", x.days(2), 0);
        due("days(1): person 1 by place 1", x.days(1), 2);
        due("days(99)", x.days(99), 0);
        due("count(5)", x.count(5), 102);
        due("count(4)", x.count(4), 2);
        x.go(0, 1);
        x.go(0, 2);
        due("days(1)", x.days(1), 1);
        due("count(4)", x.count(4), 3);
        x = told("scale 2;place 2;place 0 1;person at 0;person at 1 blank 1;person at 1 blank 0;person at 1 blank 0 found;");
        due("without a blank none finds; found ones don't again", x.days(2), 6);
        due("count(4)", x.count(4), 14);
    }

    private static void p14() {
        BlankNote x = told(CHAIN);
        List<Long> before = seen(x);
        due("ear(3, 0)", x.ear(3, 0), -11);
        due("ear(-1, 0)", x.ear(-1, 0), -11);
        due("ear(0, 10)", x.ear(0, 10), -11);
        due("ear(0, -1)", x.ear(0, -1), -11);
        unchanged("ear refused", x, before);
        due("ear(1, 9)", x.ear(1, 9), 5);
        due("ear(1, 0)", x.ear(1, 0), 9);
        due("ear(1, 0) again", x.ear(1, 0), 0);
        due("count(7)", x.count(7), 3);
        x = told("scale 2;place 0;person at 0 found;");
        due("ear(0, 1)", x.ear(0, 1), 0);
        due("still found", x.count(4), 1);
    }

    private static void p15() {
        BlankNote x = told("scale 4;place 0;person at 0 blank 2 found;person at 0;");
        List<Long> before = seen(x);
        due("blank(2, 0)", x.blank(2, 0), -11);
        due("blank(-1, 0)", x.blank(-1, 0), -11);
        due("blank(0, 4)", x.blank(0, 4), -11);
        due("blank(0, -2)", x.blank(0, -2), -11);
        unchanged("blank refused", x, before);
        due("blank(0, 2)", x.blank(0, 2), 2);
        due("found no more", x.count(4), 0);
        due("blank(0, NONE)", x.blank(0, -1), 2);
        due("blank(0, 3)", x.blank(0, 3), -1);
        due("person(0, 4)", x.person(0, 4), 7);
        due("person(1, 1)", x.person(1, 1), -1);
    }

    private static void p16() {
        BlankNote x = told(CHAIN);
        List<Long> start = seen(x);
        due("undo(1)", x.undo(1), -3);
        due("undo(0)", x.undo(0), -3);
        x.go(0, 1);
        x.days(3);
        x.ear(1, 1);
        x.blank(1, 0);
        due("found by now", x.count(4), 1);
        due("undo(0)", x.undo(0), -3);
        due("undo(-1)", x.undo(-1), -3);
        due("undo(5)", x.undo(5), -3);
        due("undo(11)", x.undo(11), -3);
        due("undo(1)", x.undo(1), 3);
        due("found again, and with it the blank", x.count(4), 3);
        due("blank of 1", x.person(1, 1), 3);
        due("undo(3)", x.undo(3), 0);
        unchanged("all undone", x, start);
        for (int i = 0; i < 12; i++) x.ear(0, i % 10);
        due("count(7): ten at most", x.count(7), 10);
        due("undo(11)", x.undo(11), -3);
        due("undo(10)", x.undo(10), 0);
        due("the eldest two are forgotten", x.person(0, 2), 1);
        x.year(7, 40);
        x.days(1);
        due("undo(1)", x.undo(1), 1);
        due("undo(1): a year as a whole", x.undo(1), 0);
        due("ear", x.person(0, 2), 1);
        due("day", x.count(5), 0);
        due("refused calls aren't undone", x.go(0, 2), -12);
        due("undo(1)", x.undo(1), -3);
    }

    private static void p17() {
        BlankNote x = told(CHAIN);
        due("judge(0, 0)", x.judge(0, 0), -6);
        due("judge(4, 0)", x.judge(4, 0), -2);
        due("judge(-1, 0)", x.judge(-1, 0), -2);
        due("judge(0, 4)", x.judge(0, 4), -2);
        due("judge(0, -1)", x.judge(0, -1), -2);
        // to place 1, two days (2 sounds on the second), back, person 2 to place 1
        tray(x, 0, 1, 1, -1, -1, 0, 21);
        List<Long> before = seen(x);
        int[] fine = {-1, 0, 1, 3};
        for (int w = 0; w < 4; w++) due("judge(0, " + w + ")", x.judge(0, w), fine[w]);
        unchanged("judge", x, before);
        // person 0 finds on day 1, person 1 on day 2; then 300 is none such
        tray(x, 1, 1, 1, -1, -1, -1, 2, 1, 300, 0);
        int[] stopped = {6, 1, 3, 6};
        for (int w = 0; w < 4; w++) due("judge(1, " + w + ")", x.judge(1, w), stopped[w]);
        tray(x, 2, 1);
        int[] none = {-1, 0, 0, 7};
        for (int w = 0; w < 4; w++) due("judge of an empty tray, " + w, x.judge(2, w), none[w]);
        long[] whyOne = {300, -2, 30, 3, 130, 230, 204, 299, 99, 1000, -128};
        for (long v : whyOne) {
            tray(x, 3, 2, v);
            due("judge " + v + ", 0", x.judge(3, 0), 0);
            due("judge " + v + ", 1", x.judge(3, 1), 1);
        }
        for (long v : new long[] {0, 2, 11, 20}) {
            tray(x, 3, 2, v);
            due("judge " + v + ", 1", x.judge(3, 1), 2);
        }
        for (long v : new long[] {1, 10, 12, 21, 100, 109, 129, 200, 203, 223, -1}) {
            tray(x, 3, 2, v);
            due("judge " + v + ", 0", x.judge(3, 0), -1);
        }
        tray(x, 3, 3, 1L << 32);
        due("judge 2 to the 32nd", x.judge(3, 1), 1);
        x = new BlankNote();
        tray(x, 0, 0, -1, -1, 0);
        due("judge without people", x.judge(0, 0), 2);
        due("places without people", x.judge(0, 3), 0);
    }

    private static void p18() {
        BlankNote x = told(CHAIN);
        due("perform(0)", x.perform(0), -6);
        due("perform(4)", x.perform(4), -2);
        due("perform(-1)", x.perform(-1), -2);
        tray(x, 0, 1, 1, -1, -1, 107, 213, 2, 0, -1);
        due("perform(0)", x.perform(0), 6);
        due("day", x.count(5), 2);
        due("place of 0", x.person(0, 0), 2);
        due("ear of 0", x.person(0, 2), 7);
        due("blank of 1", x.person(1, 1), 3);
        due("found", x.count(4), 1);
        due("count(7)", x.count(7), 1);
        tray(x, 0, 1, 999, -1);
        List<Long> before = seen(x);
        due("perform(0): none", x.perform(0), 0);
        unchanged("perform of none", x, before);
        tray(x, 1, 0);
        due("perform(1): empty", x.perform(1), 0);
        due("count(7)", x.count(7), 1);
        due("undo(1)", x.undo(1), 0);
        due("place of 0", x.person(0, 0), 0);
        due("ear of 0", x.person(0, 2), 0);
        due("day", x.count(5), 0);
        tray(x, 2, 1, 200, -1);
        due("perform(2)", x.perform(2), 2);
        due("found its new blank", x.count(4), 1);
    }

    private static void p19() {
        BlankNote x = told(CHAIN);
        List<Long> before = seen(x);
        due("year(1, 0)", x.year(1, 0), -3);
        due("year(1, 41)", x.year(1, 41), -3);
        due("year(1, -1)", x.year(1, -1), -3);
        unchanged("year refused", x, before);
        // seed 0: draws 0 (12345 >>> 16): a day
        due("year(0, 1)", x.year(0, 1), 1);
        due("day", x.count(5), 1);
        due("count(7)", x.count(7), 1);
        int days = 0;
        long s = 20261118L;
        for (int i = 0; i < 40; i++) {
            s = s * 1103515245L + 12345L & 0xffffffffL;
            long kind = (s >> 16) % 5;
            if (kind == 0) days++;
            for (int j = 0; j < 2 && kind != 0; j++) s = s * 1103515245L + 12345L & 0xffffffffL;
        }
        due("days of a year without people", new BlankNote().year(20261118, 40), days);
        BlankNote y = new BlankNote();
        y.year(20261118, 40);
        due("day", y.count(5), days);
    }

    private static void p20() {
        BlankNote x = told(CHAIN);
        due("blanks(4, 0)", x.blanks(4, 0), -2);
        due("blanks(-1, 0)", x.blanks(-1, 0), -2);
        due("blanks(0, 3)", x.blanks(0, 3), -2);
        due("blanks(0, -1)", x.blanks(0, -1), -2);
        due("blanks(0, 0)", x.blanks(0, 0), -6);
        x.numbers(0, 0, 0);
        due("no answers", x.blanks(0, 0), -4);
        x.numbers(0, 0, 21);
        x.write(0, 0, 99);
        due("21 answers", x.blanks(0, 0), -4);
        x.numbers(0, 0, 20);
        due("20 answers: 0 was not heard", x.blanks(0, 0), 1);
        x.write(0, 19, 8);
        due("8 is none such", x.blanks(0, 0), -3);
        x.write(0, 19, -1);
        due("-1 is none such", x.blanks(0, 0), -3);
        tray(x, 1, 0, 1, 3);
        due("0 and 1 were heard", x.blanks(1, 0), 28);
        tray(x, 1, 0, 1, 3, 5, 7);
        due("all were heard", x.blanks(1, 0), 16);
        tray(x, 1, 0, 0, 2);
        due("0 and 1 were not heard", x.blanks(1, 0), 0);
        tray(x, 1, 0, 6, 7);
        due("3 was, and was not", x.blanks(1, 0), 0);
        x.go(0, 1);
        x.days(2);
        tray(x, 1, 0, 1);
        due("found: by any", x.blanks(1, 0), 31);
        tray(x, 1, 3, 1L << 32);
        due("2 to the 32nd is none such", x.blanks(1, 0), -3);
    }

    private static void p21() {
        BlankNote x = told(CHAIN);
        due("attempt(4, 0)", x.attempt(4, 0), -2);
        due("attempt(0, 3)", x.attempt(0, 3), -2);
        due("attempt(0, 0)", x.attempt(0, 0), -6);
        x.numbers(0, 0, 21);
        due("21 answers", x.attempt(0, 0), -4);
        tray(x, 0, 0, 8);
        due("none such", x.attempt(0, 0), -3);
        tray(x, 0, 0, 1);
        due("0 was heard: try 1", x.attempt(0, 0), 1);
        tray(x, 0, 0, 1, 3, 7);
        due("2, or none: try 2", x.attempt(0, 0), 2);
        tray(x, 0, 0, 4);
        due("2 it is: the first", x.attempt(0, 0), 0);
        tray(x, 0, 0, 0, 2);
        due("no blank would", x.attempt(0, 0), -1);
        x = told("scale 4;place 0;person at 0;hears : note < blank;");
        tray(x, 0, 0, 1);
        due("blanks 1 to 4: heard 4, 3, 2, 1 of them", x.attempt(0, 0), 2);
    }

    private static void p22to24() {
        BlankNote x = told(CHAIN);
        for (int p = 0; p < 3; p++) {
            due("knowing(" + p + ")", x.knowing(p), 4);
            due("begins(" + p + ")", x.begins(p), 0);
            due("atOnce(" + p + ")", x.atOnce(p), 15);
        }
        for (int p : new int[] {-1, 3}) {
            due("knowing(" + p + ")", x.knowing(p), -2);
            due("begins(" + p + ")", x.begins(p), -2);
            due("atOnce(" + p + ")", x.atOnce(p), -2);
        }
        x = told("scale 4;place 0;person at 0 found;person at 0;");
        due("found: nothing can be told apart", x.knowing(0), 0);
        due("begins(0)", x.begins(0), -1);
        due("atOnce(0)", x.atOnce(0), 0);
        // by halves: 11 blanks in a line
        x = told("scale 10;place 0;person at 0;hears : note < blank;");
        due("knowing(0)", x.knowing(0), 4);
        due("begins(0): five hear 5, six hear 4, eight at most a side", x.begins(0), 2);
        due("atOnce(0): each cut is needed", x.atOnce(0), 1023);
        x = told("scale 3;place 0;person at 0;hears : note = 1 and blank < 2 or note = 2 and blank < 2;");
        due("knowing(0)", x.knowing(0), 1);
        due("begins(0)", x.begins(0), 1);
        due("atOnce(0): the least of like ones", x.atOnce(0), 2);
        x = told("scale 10;place 0;person at 0;");
        due("ten notes, one by one", x.knowing(0), 10);
        due("ear counts", told("scale 4;place 0;person at 0 ear 1;hears : note < ear or note < blank;").knowing(0), 2);
    }

    private static void p25() {
        BlankNote x = told("scale 4;place 0;person at 0;person at 0;person at 0;person at 0;"
                + "hears : who = 0 and note < 2 or who = 1 and note > 1 or who = 2 and not note = 0 or who = 3 and note = 0;");
        // 0: {0,1}, 1: {2,3}, 2: {1,2,3}, 3: {0}
        int[][] want = {{0, 1, 0}, {1, 1, 1}, {3, 1, 1}, {12, 1, 2}, {15, 1, 3}, {14, 1, 4}, {15, 2, 15}, {1, 2, 9}, {2, 2, 5}, {12, 2, 6}};
        for (int[] w : want) {
            due("choir(" + w[0] + ", " + w[1] + ", 1)", x.choir(w[0], w[1], 1), w[2]);
            due("choir(" + w[0] + ", " + w[1] + ", 0)", x.choir(w[0], w[1], 0), Integer.bitCount(w[2]));
        }
        due("choir(1, 3, 0)", x.choir(1, 3, 0), -1);
        due("choir(1, 3, 1)", x.choir(1, 3, 1), -1);
        due("choir(0, 6, 1)", x.choir(0, 6, 1), 0);
        due("choir(16, 1, 2): what ahead", x.choir(16, 1, 2), -2);
        due("choir(0, 1, -1)", x.choir(0, 1, -1), -2);
        due("choir(16, 1, 0)", x.choir(16, 1, 0), -3);
        due("choir(-1, 1, 0)", x.choir(-1, 1, 0), -3);
        due("choir(1, 0, 0)", x.choir(1, 0, 0), -3);
        due("choir(1, 7, 0)", x.choir(1, 7, 0), -3);
    }

    private static void p26to28() {
        BlankNote x = told("scale 3;place 0;person at 0;person at 0;person at 0;person at 0;person at 0;"
                + "hears : who = 0 and note = 0 or who = 1 and note > 0 or who = 2 and note < 2 or who = 3 and note = 2 or who = 4 and note = 1;");
        // 0: {0}, 1: {1,2}, 2: {0,1}, 3: {2}, 4: {1}; all three: 0-1, 1-2, 2-3; 0 and 1: 0-1, 1-2, 0-2, 2-3, 2-4, 0-4
        due("rows(7): 4 is with nobody", x.rows(7), 0);
        for (int k = 0; k < 6; k++) due("row(7, " + k + ")", x.row(7, k), -1);
        due("rows(0)", x.rows(0), 120);
        for (int k = 0; k < 6; k++) due("row(0, " + k + ")", x.row(0, k), k < 5 ? k : -1);
        // 3 hangs on 2 alone, so a row begins or ends with it: 3 2 and then 0, 1, 4: 4 0 1, 1 0 4
        due("rows(3)", x.rows(3), 4);
        int[] row = {1, 0, 4, 2, 3};
        for (int k = 0; k < 7; k++) due("row(3, " + k + ")", x.row(3, k), k < 5 ? row[k] : -1);
        due("row(3, max)", x.row(3, Integer.MAX_VALUE), -1);
        due("row(3, -1)", x.row(3, -1), -3);
        due("row(8, 0)", x.row(8, 0), -3);
        due("rows(8)", x.rows(8), -3);
        due("rows(-1)", x.rows(-1), -3);
        due("pairs(7, 0)", x.pairs(7, 0), 2);
        int[] with7 = {1, 0, 3, 2, -1};
        int[] with3 = {1, 0, 3, 2, -1};
        for (int p = 0; p < 5; p++) {
            due("pairs(7, 1" + p + ")", x.pairs(7, 10 + p), with7[p]);
            due("pairs(3, 1" + p + ")", x.pairs(3, 10 + p), with3[p]);
        }
        due("pairs(0, 0)", x.pairs(0, 0), 2);
        due("pairs(0, 14)", x.pairs(0, 14), -1);
        for (int w : new int[] {-1, 1, 9, 15, 16, 99}) due("pairs(8, " + w + "): what ahead", x.pairs(8, w), -2);
        due("pairs(8, 0)", x.pairs(8, 0), -3);
        due("pairs(8, 10)", x.pairs(8, 10), -3);
        // 0 alone fits with 1 and 2, 1 with 2 and 3: the most are two, so 0 goes with 2
        x = told("scale 3;place 0;person at 0;person at 0;person at 0;person at 0;"
                + "hears : who = 0 and note = 0 or who = 1 and note > 0 or who = 2 and note > 0 or who = 3 and note = 0;");
        due("pairs(7, 0)", x.pairs(7, 0), 2);
        int[] with = {1, 0, 3, 2};
        for (int p = 0; p < 4; p++) due("pairs(7, 1" + p + ")", x.pairs(7, 10 + p), with[p]);
        x.ear(0, 1);
        x = told("scale 2;place 0;person at 0;person at 0 blank 0;person at 0 blank 0;person at 0 blank 1;");
        // 0 fits with all, 3 with all, 1 and 2 not with one another
        due("pairs(3, 0)", x.pairs(3, 0), 2);
        due("pairs(3, 10)", x.pairs(3, 10), 1);
        due("pairs(3, 12)", x.pairs(3, 12), 3);
        x = told("scale 2;place 0;person at 0 blank 0;person at 0 blank 0;person at 0 blank 0;person at 0 blank 1;person at 0 blank 0;");
        due("the first goes with 3", x.pairs(3, 10), 3);
        due("none", x.pairs(3, 11), -1);
        due("pairs(3, 0)", x.pairs(3, 0), 1);
        x = new BlankNote();
        due("rows(0) without people", x.rows(0), 1);
        due("row(0, 0) without people", x.row(0, 0), -1);
        due("pairs(0, 0) without people", x.pairs(0, 0), 0);
        due("pairs(0, 10) without people", x.pairs(0, 10), -2);
        x = told("scale 2;place 0;person at 0 blank 0;");
        due("one person is a row", x.rows(3), 1);
        due("row(3, 0)", x.row(3, 0), 0);
    }

    private static void tune(BlankNote x, int set, int... notes) {
        due("longest(" + set + ")", x.longest(set), notes.length);
        for (int i = 0; i < notes.length; i++) due("longNote(" + set + ", " + i + ")", x.longNote(set, i), notes[i]);
        due("longNote(" + set + ", behind)", x.longNote(set, notes.length), -1);
    }

    private static void through(BlankNote x, int set, int needed, int... notes) {
        due("through(" + set + ", " + needed + ")", x.through(set, needed), notes.length);
        for (int i = 0; i < notes.length; i++) due("throughNote(" + set + ", " + needed + ", " + i + ")", x.throughNote(set, needed, i), notes[i]);
        due("throughNote(" + set + ", " + needed + ", behind)", x.throughNote(set, needed, notes.length), -1);
    }

    private static void p29to33() {
        BlankNote x = told(CHAIN);
        tune(x, 0, 0, 1, 2, 3);
        tune(x, 1, 0, 1);
        tune(x, 2, 0, 1, 2);
        tune(x, 3, 0, 1);
        for (int s : new int[] {8, -1}) {
            due("longest(" + s + ")", x.longest(s), -3);
            due("longNote(" + s + ", 0)", x.longNote(s, 0), -3);
            due("through(" + s + ", 0)", x.through(s, 0), -3);
            due("throughNote(" + s + ", 0, 0)", x.throughNote(s, 0, 0), -3);
            due("tunes(" + s + ", 1)", x.tunes(s, 1), -3);
        }
        due("longNote(0, -1)", x.longNote(0, -1), -3);
        due("longNote(0, max)", x.longNote(0, Integer.MAX_VALUE), -1);
        through(x, 0, 0);
        through(x, 0, 9, 0, 1, 2, 3);
        through(x, 0, 8, 3);
        through(x, 0, 5, 0, 1, 2);
        through(x, 3, 3, 0, 1);
        due("through(1, 4): it isn't heard", x.through(1, 4), -1);
        due("through(1, 9): no way round 2", x.through(1, 9), -1);
        due("throughNote(1, 9, 0)", x.throughNote(1, 9, 0), -1);
        due("throughNote(1, 9, -1)", x.throughNote(1, 9, -1), -3);
        due("through(0, 16)", x.through(0, 16), -3);
        due("throughNote(0, 16, 0)", x.throughNote(0, 16, 0), -3);
        due("through(0, -1)", x.through(0, -1), -3);
        int[] counts = {4, 10, 26, 68};
        for (int n = 1; n <= 4; n++) due("tunes(0, " + n + ")", x.tunes(0, n), counts[n - 1]);
        due("tunes(3, 5)", x.tunes(3, 5), 32);
        due("tunes(0, 0)", x.tunes(0, 0), -3);
        due("tunes(0, 16)", x.tunes(0, 16), -3);
        due("tunes of ten notes", told("scale 10;").tunes(0, 15), 1000000000000000L);
        // a star: 0 leads to all, all lead to 0
        x = told("scale 6;goes : from = 0 or to = 0;");
        tune(x, 0, 1, 0, 2);
        through(x, 0, 62, 1, 0, 2, 0, 3, 0, 4, 0, 5);
        through(x, 0, 48, 4, 0, 5);
        // a ring, one way round
        x = told("scale 10;goes : to = from + 1 or from = 9 and to = 0;");
        tune(x, 0, 0, 1, 2, 3, 4, 5, 6, 7, 8, 9);
        through(x, 0, 0b1000000001, 9, 0);
        through(x, 0, 0b0000100001, 0, 1, 2, 3, 4, 5);
        through(x, 0, 0b0010000010, 7, 8, 9, 0, 1);
        due("tunes of a ring", x.tunes(0, 15), 10);
        // a longest one that does not begin with the least note
        x = told("scale 5;goes : from = to + 1;");
        tune(x, 0, 4, 3, 2, 1, 0);
        x = told("scale 4;place 0;person at 0;hears : 1 = 0;");
        tune(x, 1);
        tune(x, 0, 0, 1, 2, 3);
        due("tunes(1, 1)", x.tunes(1, 1), 0);
        through(x, 1, 0);
        x = told("scale 3;goes : 1 = 0;");
        tune(x, 0, 0);
        through(x, 0, 4, 2);
        due("through(0, 3)", x.through(0, 3), -1);
    }

    private static void p34to37() {
        BlankNote x = told(CHAIN);
        int[][] routes = {{0, 1}, {0, 0, 1}, {}};
        int[] finds = {2, 3, -1};
        for (int p = 0; p < 3; p++) {
            due("finds(" + p + ")", x.finds(p), finds[p]);
            for (int i = 0; i < 5; i++) due("route(" + p + ", " + i + ")", x.route(p, i), i < routes[p].length ? routes[p][i] : -1);
        }
        for (int p : new int[] {-1, 3}) {
            due("finds(" + p + ")", x.finds(p), -2);
            due("route(" + p + ", -1)", x.route(p, -1), -2);
            due("near(" + p + ", 0)", x.near(p, 0), -2);
        }
        due("route(0, -1)", x.route(0, -1), -3);
        due("route(0, max)", x.route(0, Integer.MAX_VALUE), -1);
        due("all()", x.all(), 3);
        int[] near0 = {6, 7, 7};
        int[] near1 = {0, 0, 7};
        for (int n = 1; n <= 3; n++) {
            due("near(0, " + n + ")", x.near(0, n), near0[n - 1]);
            due("near(1, " + n + ")", x.near(1, n), near1[n - 1]);
        }
        due("near(2, 99)", x.near(2, 99), 0);
        due("near(0, 0)", x.near(0, 0), -3);
        due("near(0, 100)", x.near(0, 100), -3);
        x.days(1);
        due("a day on: finds(0)", x.finds(0), 1);
        due("route(0, 0)", x.route(0, 0), 1);
        due("finds(1)", x.finds(1), 2);
        due("near(1, 2)", x.near(1, 2), 7);
        x.go(0, 1);
        x.days(1);
        due("found: finds(0)", x.finds(0), 0);
        due("route(0, 0)", x.route(0, 0), -1);
        due("near(0, 1): all", x.near(0, 1), 7);
        x.days(1);
        due("all(): nobody has to", x.all(), 0);
        // six in a line; only the last one sounds, every fourth day
        x = told("scale 2;place 2;place 2;place 2;place 2;place 2;place 2 2 2 0;way 0 1;way 1 2;way 2 3;way 3 4;way 4 5;person at 0 blank 0;person at 0 blank 1;");
        due("finds(0): day 7, five ways off", x.finds(0), 8);
        int[] route = {0, 0, 0, 1, 2, 3, 4, 5};
        for (int i = 0; i < 9; i++) due("route(0, " + i + ")", x.route(0, i), i < 8 ? route[i] : -1);
        due("finds(1)", x.finds(1), -1);
        due("all()", x.all(), 8);
        due("near(0, 4)", x.near(0, 4), 0b111110);
        due("near(0, 3)", x.near(0, 3), 0);
        due("near(0, 8)", x.near(0, 8), 63);
        due("without places, people", new BlankNote().all(), 0);
        // sounds of four and of three days: both must be waited for
        x = told("scale 2;place 2 2 2 0;place 2 2 0;person at 0 blank 0;person at 1 blank 0;");
        x.days(2);
        due("finds(0)", x.finds(0), 2);
        due("finds(1)", x.finds(1), 1);
        due("all()", x.all(), 2);
    }

    private static void p38to39() {
        BlankNote x = told(CHAIN);
        long[][] want = {{0, 1}, {0, 1}, {7, 12}};
        for (int n = 0; n < 3; n++) for (int w = 0; w < 2; w++) due("chance(0, " + n + ", " + w + ")", x.chance(0, n, w), want[n][w]);
        due("chance(1, 3, 0): on day 2 at place 1", x.chance(1, 3, 0), 23);
        due("chance(1, 3, 1)", x.chance(1, 3, 1), 54);
        due("chance(2, 6, 1)", x.chance(2, 6, 1), 1);
        due("chance(3, 9, 0)", x.chance(3, 9, 0), -2);
        due("chance(-1, 0, 0)", x.chance(-1, 0, 0), -2);
        due("chance(0, 9, 2)", x.chance(0, 9, 2), -2);
        due("chance(0, 9, -1)", x.chance(0, 9, -1), -2);
        due("chance(0, 7, 0)", x.chance(0, 7, 0), -3);
        due("chance(0, -1, 0)", x.chance(0, -1, 0), -3);
        due("likeliest(0): the first", x.likeliest(0), 0);
        due("likeliest(3)", x.likeliest(3), 0);
        due("likeliest(7)", x.likeliest(7), -3);
        due("likeliest(-1)", x.likeliest(-1), -3);
        x.go(0, 1);
        x.days(2);
        due("found: chance(0, 0, 0)", x.chance(0, 0, 0), 1);
        due("chance(0, 6, 1)", x.chance(0, 6, 1), 1);
        due("likeliest(1) of those who haven't", x.likeliest(1), 1);
        due("chance(1, 1, 0)", x.chance(1, 1, 0), 1);
        due("chance(1, 1, 1)", x.chance(1, 1, 1), 3);
        due("nobody", new BlankNote().likeliest(3), -1);
        due("all have", told("scale 2;place 0;person at 0 found;").likeliest(3), -1);
        // six places, each with a way to each: five in six miss on each day
        x = told("scale 2;place 0;place 2;place 2;place 2;place 2;place 2;way 0 1;way 0 2;way 0 3;way 0 4;way 0 5;way 1 2;way 1 3;way 1 4;way 1 5;"
                + "way 2 3;way 2 4;way 2 5;way 3 4;way 3 5;way 4 5;person at 3;person at 3 blank 0;person at 0 blank 0;");
        due("ways", x.count(6), 15);
        due("chance(1, 6, 0)", x.chance(1, 6, 0), 46656 - 15625);
        due("chance(1, 6, 1)", x.chance(1, 6, 1), 46656);
        due("chance(2, 1, 0): it goes first", x.chance(2, 1, 0), 1);
        due("chance(2, 1, 1)", x.chance(2, 1, 1), 6);
        due("likeliest(2)", x.likeliest(2), 1);
        due("likeliest(0)", x.likeliest(0), 0);
        x = told("scale 2;place 0;person at 0 blank 0;");
        due("it can but stay", x.chance(0, 6, 0), 1);
        due("chance(0, 6, 1)", x.chance(0, 6, 1), 1);
    }

    private static void p40to41() {
        BlankNote x = new BlankNote();
        due("numbers(4, 0, 0)", x.numbers(4, 0, 0), -2);
        due("numbers(-1, 0, 0)", x.numbers(-1, 0, 0), -2);
        due("numbers(0, 4, 41)", x.numbers(0, 4, 41), -2);
        due("numbers(0, -1, 0)", x.numbers(0, -1, 0), -2);
        due("numbers(0, 0, 41)", x.numbers(0, 0, 41), -3);
        due("numbers(0, 0, -1)", x.numbers(0, 0, -1), -3);
        due("write(0, 0, 1): still missing", x.write(0, 0, 1), -6);
        due("write(4, 0, 1)", x.write(4, 0, 1), -2);
        due("write(-1, 0, 1)", x.write(-1, 0, 1), -2);
        due("numbers(3, 0, 0)", x.numbers(3, 0, 0), 0);
        due("write(3, 0, 1)", x.write(3, 0, 1), -7);
        due("numbers(3, 3, 40)", x.numbers(3, 3, 40), 0);
        due("write(3, 39, min)", x.write(3, 39, Long.MIN_VALUE), Long.MIN_VALUE);
        due("write(3, 40, 1)", x.write(3, 40, 1), -7);
        due("write(3, -1, 1)", x.write(3, -1, 1), -7);
        long[] v = {0, 127, 128, 255, 256, -1, -129, 32767, 32768, 65535, 2147483647L, 2147483648L, -2147483649L, Long.MAX_VALUE};
        for (int s = 0; s < 4; s++) {
            x.numbers(s, s, 1);
            for (long w : v) due("sort " + s + ", " + w, x.write(s, 0, w), s == 0 ? (byte) w : s == 1 ? (short) w : s == 2 ? (int) w : w);
        }
        x.numbers(0, 1, 3);
        x.write(0, 0, -1);
        x.write(0, 1, -1);
        x.write(0, 2, -1);
        due("three days", x.perform(0), 3);
        due("numbers(0, 1, 41): it stays", x.numbers(0, 1, 41), -3);
        due("three days", x.perform(0), 3);
        due("numbers(0, 1, 3): all 0", x.numbers(0, 1, 3), 0);
        due("no deeds", x.perform(0), 0);
        due("255 of 8 bits is NONE", x.numbers(0, 0, 1) + x.write(0, 0, 255), -1);
        due("a day", x.perform(0), 1);
    }

    private static void p42() {
        BlankNote x = told("scale 6;place 0;person at 0 blank 5;goes : from = to + 1;");
        due("lists(4, 0)", x.lists(4, 9), -2);
        due("lists(-1, 0)", x.lists(-1, 9), -2);
        due("lists(0, 9)", x.lists(0, 9), -6);
        x.numbers(0, 0, 8);
        due("lists(0, 2)", x.lists(0, 2), -3);
        due("lists(0, -1)", x.lists(0, -1), -3);
        for (int i = 0; i < 8; i++) x.write(0, i, 11);
        due("lists(0, 0)", x.lists(0, 0), 6);
        // 5 4 3 2 1 0 as answers: 2 heard, 2 not, 1 heard, 1 not ..
        due("no blank by these", x.blanks(0, 0), 0);
        x.numbers(0, 0, 2);
        due("lists(0, 0): as far as there is room", x.lists(0, 0), 2);
        x.numbers(1, 0, 3);
        x.write(1, 2, 1);
        x.numbers(2, 0, 0);
        due("lists(2, 0)", x.lists(2, 0), 0);
        // the tray's numbers show as deeds: the first note of the longest tune is 4 for person 0
        x.numbers(1, 0, 1);
        due("lists(1, 1)", x.lists(1, 1), 1);
        due("it is 4: no place 4", x.judge(1, 1), 1);
        due("as an answer: note 2 was not heard", x.blanks(1, 0), 4);
        x = told("scale 2;place 0;person at 0;goes : 1 = 0;");
        x.numbers(0, 0, 2);
        x.write(0, 0, 2);
        x.write(0, 1, 3);
        due("lists(0, 1): one note", x.lists(0, 1), 1);
        due("0 not heard, 1 heard (the rest stays)", x.blanks(0, 0), 1);
    }

    private static void p43to44() {
        BlankNote x = told(CHAIN);
        due("image(2)", x.image(2), -2);
        due("image(-1)", x.image(-1), -2);
        due("restore(2)", x.restore(2), -2);
        due("restore(-1)", x.restore(-1), -2);
        due("restore(0)", x.restore(0), -5);
        x.go(0, 1);
        x.days(2);
        x.ear(1, 2);
        x.blank(1, 0);
        due("image(0)", x.image(0), 0);
        due("undo goes on behind an image", x.count(7), 4);
        due("restore(1)", x.restore(1), -5);
        List<Long> kept = seen(x);
        due("undo(4)", x.undo(4), 0);
        due("image(1)", x.image(1), 0);
        due("another valley", tell(x, "scale 7;tune 6;"), 2);
        x.days(5);
        x.numbers(2, 0, 1);
        feed(x, "tape");
        due("restore(0)", x.restore(0), 0);
        due("nothing can be undone", x.count(7), 0);
        due("undo(1)", x.undo(1), -3);
        due("the tape stays", x.count(8), 20);
        due("the trays stay", x.judge(2, 0), -1);
        due("lines", x.count(9), 12);
        due("day", x.count(5), 2);
        due("found", x.count(4), 1);
        due("place of 0", x.person(0, 0), 1);
        due("ear of 1", x.person(1, 2), 2);
        due("blank of 1", x.person(1, 1), 0);
        due("goes, too", x.tunes(0, 2), 10);
        due("as many notes", kept.get(0), x.count(0));
        x.ear(1, 9);
        x.days(9);
        due("restore(0) again", x.restore(0), 0);
        due("ear of 1", x.person(1, 2), 2);
        due("day", x.count(5), 2);
        due("restore(1)", x.restore(1), 0);
        due("day", x.count(5), 0);
        due("place of 0", x.person(0, 0), 0);
        due("ear of 1", x.person(1, 2), 5);
        due("fault", x.fault(0), 0);
        due("the tape, a faulty text", x.valley(4), -32);
        due("restore(0)", x.restore(0), 0);
        due("the fault of the latest valley stays", x.fault(0), 2);
        BlankNote y = new BlankNote();
        y.days(3);
        due("image of none", y.image(1), 0);
        tell(y, CHAIN);
        due("restore(1)", y.restore(1), 0);
        due("notes", y.count(0), 2);
        due("people", y.count(3), 0);
        due("day", y.count(5), 3);
        due("lines", y.count(9), 0);
    }

    private static void p45() {
        BlankNote x = told(CHAIN);
        x.go(0, 1);
        x.days(2);
        feed(x, "abc");
        int[] counts = {4, 2, 3, 3, 1, 2, 2, 2, 20, 12};
        for (int w = 0; w < 10; w++) due("count(" + w + ")", x.count(w), counts[w]);
        for (int w : new int[] {-1, 10, 99, Integer.MIN_VALUE}) due("count(" + w + ")", x.count(w), -1);
    }

    public static void main(String[] args) {
        String[] names = {"1", "2", "3", "4", "5", "6", "7", "8", "9", "10", "11", "12", "13", "14", "15", "16", "17", "18", "19", "20",
            "21", "22 to 24", "25", "26 to 28", "29 to 33", "34 to 37", "38, 39", "40, 41", "42", "43, 44", "45"};
        Runnable[] promises = {PromiseTest::p1, PromiseTest::p2, PromiseTest::p3, PromiseTest::p4, PromiseTest::p5, PromiseTest::p6, PromiseTest::p7,
            PromiseTest::p8, PromiseTest::p9, PromiseTest::p10, PromiseTest::p11, PromiseTest::p12, PromiseTest::p13, PromiseTest::p14, PromiseTest::p15,
            PromiseTest::p16, PromiseTest::p17, PromiseTest::p18, PromiseTest::p19, PromiseTest::p20, PromiseTest::p21, PromiseTest::p22to24,
            PromiseTest::p25, PromiseTest::p26to28, PromiseTest::p29to33, PromiseTest::p34to37, PromiseTest::p38to39, PromiseTest::p40to41,
            PromiseTest::p42, PromiseTest::p43to44, PromiseTest::p45};
        for (int i = 0; i < promises.length; i++) {
            named("promise " + names[i]);
            promises[i].run();
        }
        end();
    }
}
