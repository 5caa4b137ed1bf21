/** Promises 8 to 12: the tape, the custom that it tells, its faults, and who may make what. */
public final class CustomTest {
    public static void main(String[] args) {
        promise8Feed();
        promise8HighestByteFirst();
        promise9End();
        promise10Custom();
        promise10TwentyFourLines();
        promise10AFaultLeavesAllAsItWas();
        promise11FaultsOfForm();
        promise11FaultsOfNumbers();
        promise11TheLatest();
        promise12May();
        promise12LineByLine();
        Checks.finish();
    }

    private static int feedBlanks(GlassValley x) {
        return x.feed(0x20202020, 0x20202020, 0x20202020, 0x20202020, 0x20202020);
    }

    private static void promise8Feed() {
        GlassValley x = new GlassValley();
        for (int n = 1; n <= 25; n++) {
            Checks.due("8: feed " + n, feedBlanks(x), 20 * n);
        }
        Checks.due("8: beyond 500", feedBlanks(x), -1);
        Checks.due("8: nothing came", x.end(500), true);
        x.end(481);
        Checks.due("8: from 481 on", feedBlanks(x), -1);
        x.end(480);
        Checks.due("8: from 480 on", feedBlanks(x), 500);
        Checks.due("8: 500 blanks", x.custom(), 0);
        Checks.due("8: empty then", feedBlanks(x), 20);
    }

    private static void promise8HighestByteFirst() {
        GlassValley x = new GlassValley();
        // "own " "3by " "2;  " and blanks
        Checks.due("8: feed", x.feed(0x6f776e20, 0x33627920, 0x323b2020, 0x20202020, 0x0a0a2020), 20);
        Checks.due("8: its custom", x.custom(), 1);
        Checks.due("8: its owner", x.may(2, 3, 0), 1);
        Checks.due("8: another", x.may(1, 3, 0), 0);
        x.feed(0x20202020, 0x20ff2020, 0x20202020, 0x20202020, 0x20202020);
        Checks.due("8: a byte above 127", x.custom(), -1);
        Checks.due("8: its place", x.fault(1), 5);
    }

    private static void promise9End() {
        GlassValley x = new GlassValley();
        Checks.due("9: end(0)", x.end(0), true);
        Checks.due("9: end(1) of none", x.end(1), false);
        Checks.due("9: end(-1)", x.end(-1), false);
        feedBlanks(x);
        Checks.due("9: end(21)", x.end(21), false);
        Checks.due("9: end(20)", x.end(20), true);
        Checks.due("9: end(-1) of 20", x.end(-1), false);
        Checks.due("9: end(min)", x.end(Integer.MIN_VALUE), false);
        Checks.due("9: end(max)", x.end(Integer.MAX_VALUE), false);
        Checks.due("9: all still there", feedBlanks(x), 40);
        Checks.due("9: end(7)", x.end(7), true);
        Checks.due("9: end(8) then", x.end(8), false);
        Checks.due("9: 7 and 20", feedBlanks(x), 27);
        Checks.feed(x, "ownx 1 by 1;");
        x.end(3);
        x.custom();
        Checks.due("9: no letter behind the end", x.fault(1), 3);
        Checks.feed(x, "free 123;");
        x.end(7);
        x.custom();
        Checks.due("9: no digit behind the end", x.fault(0), 2);
    }

    private static void promise10Custom() {
        GlassValley x = new GlassValley();
        Checks.due("10: empty", x.custom(), 0);
        Checks.due("10: blanks", Checks.custom(x, " \n \n"), 0);
        Checks.due("10: one line", Checks.custom(x, "own 0 by 1;"), 1);
        Checks.due("10: it holds", x.may(0, 0, 0), 0);
        Checks.due("10: blanks are not needed", Checks.custom(x, "own0by1;bar2from3to4;lend0to3until51;free5;"), 4);
        Checks.due("10: own", x.may(1, 0, 51), 1);
        Checks.due("10: bar", x.may(0, 2, 3), 0);
        Checks.due("10: lend", x.may(3, 0, 51), 1);
        Checks.due("10: blanks all over", Checks.custom(x, "\n own\n\n00  by 03\n;\n"), 1);
        Checks.due("10: two digits", x.may(3, 0, 0), 1);
        Checks.due("10: a new one forgets the bars", x.may(0, 2, 3), 1);
        Checks.due("10: and the loans", x.may(2, 0, 51), 0);
        Checks.due("10: an empty one frees all", Checks.custom(x, ""), 0);
        Checks.due("10: all is free", x.may(0, 0, 0), 1);
        Checks.custom(x, "bar 4 from 0 to 9; own 5 by 0;");
        Checks.custom(x, "bar 3 from 0 to 9;");
        Checks.custom(x, "");
        Checks.custom(x, "");
        for (int p = 3; p < 6; p++) {
            Checks.due("10: nothing is left of older ones", x.may(1, p, 0), 1);
        }
        x.lend(0, 99);
        x.order(0, 1, 0, 5);
        Checks.due("10: best ahead", x.best(0), 5);
        Checks.custom(x, "own 0 by 1;");
        Checks.due("10: best behind", x.best(0), 0);
    }

    private static void promise10TwentyFourLines() {
        GlassValley x = new GlassValley();
        String lines = "own 1 by 2;".repeat(24);
        Checks.due("10: 24 lines", Checks.custom(x, lines), 24);
        Checks.due("10: the 25th", Checks.custom(x, lines + " own 1 by 3;"), -1);
        Checks.due("11: the 25th", x.fault(0), 3);
        Checks.due("11: its place", x.fault(1), 265);
        Checks.custom(x, lines + " by");
        Checks.due("11: what can't stand there is the lesser", x.fault(0), 1);
        Checks.custom(x, lines + "bar 9");
        Checks.due("11: the 25th is ahead of its number", x.fault(0), 3);
        Checks.due("11: at the keyword", x.fault(1), 264);
        Checks.custom(x, "own 1 by 4;" + lines);
        Checks.due("11: an earlier fault is the first", x.fault(0), 2);
        Checks.due("11: at the family", x.fault(1), 9);
    }

    private static void promise10AFaultLeavesAllAsItWas() {
        GlassValley x = new GlassValley();
        Checks.custom(x, "own 0 by 1; bar 1 from 5 to 6;");
        Checks.due("10: a fault in the last line", Checks.custom(x, "own 0 by 2; free 1; own 3 by 3; free"), -1);
        Checks.due("10: the owner stays", x.may(1, 0, 0), 1);
        Checks.due("10: nobody else", x.may(2, 0, 0), 0);
        Checks.due("10: the bar stays", x.may(0, 1, 5), 0);
        Checks.due("10: what was free stays free", x.may(0, 3, 0), 1);
        Checks.due("10: the tape is empty then", feedBlanks(x), 20);
        Checks.due("10: a custom after a fault", Checks.custom(x, "own 4 by 0;"), 1);
        Checks.due("10: nothing of the faulty one", x.may(0, 3, 0), 1);
        Checks.due("10: nor of the one ahead", x.may(0, 0, 0), 1);
    }

    private static void dueFault(String text, int kind, int place) {
        GlassValley x = new GlassValley();
        Checks.due("11: custom of '" + text + "'", Checks.custom(x, text), -1);
        Checks.due("11: fault of '" + text + "'", x.fault(0), kind);
        Checks.due("11: place in '" + text + "'", x.fault(1), place);
    }

    private static void promise11FaultsOfForm() {
        dueFault("own", 1, 3);
        dueFault("own  \n", 1, 6);
        dueFault("own 1", 1, 5);
        dueFault("own 1 by 1", 1, 10);
        dueFault("own 1 by 1 ", 1, 11);
        dueFault("free 1;;", 1, 7);
        dueFault(";", 1, 0);
        dueFault(" 7", 1, 1);
        dueFault("until", 1, 0);
        dueFault("own by", 1, 4);
        dueFault("own own", 1, 4);
        dueFault("own 1 by by", 1, 9);
        dueFault("own 1 by 1 by", 1, 11);
        dueFault("own 1, by 1;", 1, 5);
        dueFault("own\t1 by 1;", 1, 3);
        dueFault("own 1 by 1;\r", 1, 11);
        dueFault("ownx 1 by 1;", 1, 0);
        dueFault("ow", 1, 0);
        dueFault("ownz 1 by 1;", 1, 0);
        dueFault("ownA 1 by 1;", 1, 0);
        dueFault("ownZ 1 by 1;", 1, 0);
        dueFault("xwn 1 by 1;", 1, 0);
        dueFault("x".repeat(500), 1, 0);
        dueFault("own " + "1".repeat(496), 1, 4);
        dueFault("own 1 ; 1;", 1, 6);
        dueFault("own 1 by 1 1", 1, 11);
        dueFault("to 1 to 1 until 1;", 1, 0);
        dueFault("from 1 from 1 to 1;", 1, 0);
        dueFault("bar 1 free 1 to 2;", 1, 6);
        dueFault("OWN 1 by 1;", 1, 0);
        dueFault("free 1;freE 1;", 1, 7);
        dueFault("own 001 by 1;", 1, 4);
        dueFault("own 999999999999 by 1;", 1, 4);
        dueFault("own 4294967297 by 1;", 1, 4);
        dueFault("own 1 2 by 1;", 1, 6);
        dueFault("lend 1 to 2 by 3;", 1, 12);
        dueFault("lend 1 to 2;", 1, 11);
        dueFault("bar 1 to 2;", 1, 6);
        dueFault("bar 1 from 1 until 2;", 1, 13);
        dueFault("free 1 by 2;", 1, 7);
        dueFault("free 1;\u00e9", 1, 7);
        dueFault("own\u00e9 1 by 2;", 1, 3);
        dueFault("\u0000", 1, 0);
        dueFault("[", 1, 0);
        dueFault("@", 1, 0);
        dueFault("`", 1, 0);
        dueFault("{", 1, 0);
        dueFault("free /;", 1, 5);
        dueFault("free :;", 1, 5);
    }

    private static void promise11FaultsOfNumbers() {
        dueFault("own 6 by 9;", 2, 4);
        dueFault("own 99", 2, 4);
        dueFault("own 5 by 4;", 2, 9);
        dueFault("lend 6 to 1 until 1;", 2, 5);
        dueFault("lend 1 to 4 until 1;", 2, 10);
        dueFault("lend 1 to 3 until 52;", 2, 18);
        dueFault("bar 6 from 1 to 1;", 2, 4);
        dueFault("bar 5 from 52 to 1;", 2, 11);
        dueFault("bar 5 from 51 to 52;", 2, 17);
        dueFault("bar 5 from 51 to 50;", 2, 17);
        dueFault("bar 5 from 1 to 0 oops", 2, 16);
        dueFault("free 6;", 2, 5);
        dueFault("free 6", 2, 5);
        GlassValley x = new GlassValley();
        Checks.due("11: all at their edges",
            Checks.custom(x, "own 5 by 3; lend 5 to 3 until 51; bar 5 from 51 to 51; bar 0 from 0 to 0; free 5;"), 5);
        Checks.due("11: no fault", x.fault(0), 0);
        Checks.due("11: no place", x.fault(1), -1);
    }

    private static void promise11TheLatest() {
        GlassValley x = new GlassValley();
        Checks.custom(x, "free 9;");
        Checks.due("11: fault(2)", x.fault(2), -1);
        Checks.due("11: fault(-1)", x.fault(-1), -1);
        Checks.due("11: fault(0)", x.fault(0), 2);
        Checks.feed(x, "free 1;");
        Checks.due("11: feeding is no custom", x.fault(0), 2);
        x.custom();
        Checks.due("11: a custom without fault", x.fault(0), 0);
        Checks.due("11: has no place", x.fault(1), -1);
    }

    private static void promise12May() {
        GlassValley x = new GlassValley();
        Checks.due("12: may(3, 5, 51)", x.may(3, 5, 51), 1);
        Checks.due("12: may(4, 0, 0)", x.may(4, 0, 0), -1);
        Checks.due("12: may(-1, 0, 0)", x.may(-1, 0, 0), -1);
        Checks.due("12: may(0, 6, 0)", x.may(0, 6, 0), -1);
        Checks.due("12: may(0, -1, 0)", x.may(0, -1, 0), -1);
        Checks.due("12: may(0, 0, 52)", x.may(0, 0, 52), -1);
        Checks.due("12: may(0, 0, -1)", x.may(0, 0, -1), -1);
        Checks.custom(x, "own 2 by 1; lend 2 to 3 until 10; bar 2 from 4 to 6; bar 2 from 6 to 8; bar 2 from 51 to 51;");
        for (int w = 0; w < 52; w++) {
            boolean barred = w >= 4 && w <= 8 || w == 51;
            Checks.due("12: the owner in " + w, x.may(1, 2, w), barred ? 0 : 1);
            Checks.due("12: lent to in " + w, x.may(3, 2, w), barred || w > 10 ? 0 : 1);
            Checks.due("12: others in " + w, x.may(0, 2, w), 0);
            Checks.due("12: other patterns in " + w, x.may(0, 3, w), 1);
        }
        x.work();
        Checks.due("12: a week behind is a week", x.may(1, 2, 0), 1);
    }

    private static void promise12LineByLine() {
        GlassValley x = new GlassValley();
        Checks.custom(x, "own 0 by 0; own 0 by 1;");
        Checks.due("12: the first owner", x.may(0, 0, 0), 0);
        Checks.due("12: the second owner", x.may(1, 0, 0), 1);
        Checks.custom(x, "own 0 by 0; lend 0 to 2 until 9; own 0 by 1;");
        Checks.due("12: own ends what was lent", x.may(2, 0, 0), 0);
        Checks.custom(x, "own 0 by 0; lend 0 to 2 until 9; lend 0 to 2 until 3; lend 0 to 3 until 1;");
        Checks.due("12: of several the latest", x.may(2, 0, 9), 1);
        Checks.due("12: not behind it", x.may(2, 0, 10), 0);
        Checks.due("12: each family its own", x.may(3, 0, 2), 0);
        Checks.due("12: the owner still", x.may(0, 0, 40), 1);
        Checks.custom(x, "lend 0 to 2 until 9;");
        Checks.due("12: a free pattern lent is free", x.may(1, 0, 20), 1);
        Checks.custom(x, "own 0 by 0; free 0;");
        Checks.due("12: free again", x.may(3, 0, 0), 1);
        Checks.custom(x, "free 0; own 0 by 2;");
        Checks.due("12: own ends free", x.may(3, 0, 0), 0);
        Checks.custom(x, "bar 0 from 1 to 2; own 0 by 2; free 0;");
        Checks.due("12: neither own nor free lifts a bar", x.may(2, 0, 1), 0);
        Checks.due("12: free ahead of the bar", x.may(3, 0, 0), 1);
    }
}
