/** Part 2 of the document's terms, and the promises 8 to 12 by it: the tape, the custom, its faults, rights. */
public final class Part2EdgesTest {
    private static final String[] LINES =
        {"own 0 by 0;", "lend 0 to 0 until 0;", "bar 0 from 0 to 0;", "free 0;"};

    public static void main(String[] args) {
        twentyBytesOfEachNumberTheHighestFirst();
        anyNumbersAreBytes();
        fiveHundredBytes();
        theTapeFromAnyLength();
        endUpToItsEnds();
        whatIsCutIsGone();
        anEmptyTapeIsACustom();
        blanksAre32And10Alone();
        blanksBetweenOrNone();
        keywordsAreWholeWords();
        numbersOfOneOrTwoDigits();
        patternsUpTo5();
        familiesUpTo3();
        weeksUpTo51();
        theSecondWeekOfABar();
        whatCantStandThere();
        theEndIsTheTextsLength();
        theFirstFaultByItsPlace();
        twentyFourLines();
        the25thLine();
        at25TheLeastFault();
        everyCutAndEveryByte();
        aFaultLeavesTheCustom();
        theLatestFaultAlone();
        ownTakesAll();
        lentUpToTheEndOfAWeek();
        ofSeveralTheLatest();
        barredFromTheOneWeekToTheOther();
        freeForAll();
        aNewCustomBeginsAnew();
        Checks.finish();
    }

    private static void dueFault(String text, int kind, int place) {
        GlassValley x = new GlassValley();
        String shown = "'" + text.replace("\n", "\\n") + "'";
        Checks.due("10: custom of " + shown, Checks.custom(x, text), -1);
        Checks.due("11: fault of " + shown, x.fault(0), kind);
        Checks.due("11: place in " + shown, x.fault(1), place);
    }

    private static void dueLines(String text, int lines) {
        GlassValley x = new GlassValley();
        String shown = "'" + text.replace("\n", "\\n") + "'";
        Checks.due("10: custom of " + shown, Checks.custom(x, text), lines);
        Checks.due("11: no fault of " + shown, x.fault(0), 0);
        Checks.due("11: no place in " + shown, x.fault(1), -1);
    }

    private static int feedBlanks(GlassValley x) {
        return x.feed(States.BLANKS, States.BLANKS, States.BLANKS, States.BLANKS, States.BLANKS);
    }

    private static GlassValley withTape(int length) {
        GlassValley x = new GlassValley();
        for (int n = 0; n < length; n += 20) {
            feedBlanks(x);
        }
        x.end(length);
        return x;
    }

    // ---- the tape

    private static void twentyBytesOfEachNumberTheHighestFirst() {
        for (int place = 0; place < 500; place++) {
            GlassValley x = new GlassValley();
            char[] text = " ".repeat(500).toCharArray();
            text[place] = ';';
            int[][] feeds = Checks.feeds(new String(text));
            for (int n = 0; n < feeds.length; n++) {
                int[] of = feeds[n];
                Checks.due("8: feed " + n, x.feed(of[0], of[1], of[2], of[3], of[4]), 20 * (n + 1));
            }
            Checks.due("8: byte " + place, x.custom(), -1);
            Checks.due("8: the place of byte " + place, x.fault(1), place);
        }
    }

    private static void anyNumbersAreBytes() {
        for (int any : new int[] {Integer.MIN_VALUE, -1, 0, 1, Integer.MAX_VALUE}) {
            for (int at = 0; at < 5; at++) {
                int[] of = {States.BLANKS, States.BLANKS, States.BLANKS, States.BLANKS, States.BLANKS};
                of[at] = any;
                GlassValley x = new GlassValley();
                Checks.due("8: any number", x.feed(of[0], of[1], of[2], of[3], of[4]), 20);
                Checks.due("10: is no custom", x.custom(), -1);
                Checks.due("11: its fault", x.fault(0), 1);
                Checks.due("11: its place", x.fault(1), 4 * at);
            }
        }
    }

    private static void fiveHundredBytes() {
        GlassValley x = new GlassValley();
        for (int n = 1; n <= 25; n++) {
            Checks.due("8: feed " + n, feedBlanks(x), 20 * n);
        }
        Checks.due("8: there would be 520", feedBlanks(x), -1);
        Checks.due("8: nothing came", x.end(501), false);
        Checks.due("8: 500 are there", x.end(500), true);
        Checks.due("8: refused again", x.feed(0, 0, 0, 0, 0), -1);
        Checks.due("10: 500 blanks", x.custom(), 0);
        Checks.due("10: empty then", x.end(1), false);
        Checks.due("8: room again", feedBlanks(x), 20);
        dueLines("free 5;" + " ".repeat(486) + "free 5;", 2);
        dueFault(" ".repeat(497) + "own", 1, 500);
        dueFault(" ".repeat(499) + ";", 1, 499);
        dueFault("own " + "1".repeat(496), 1, 4);
        dueFault("x".repeat(500), 1, 0);
    }

    private static void theTapeFromAnyLength() {
        for (int length = 0; length <= 500; length += length < 20 || length > 475 ? 1 : 19) {
            GlassValley x = withTape(length);
            Checks.due("8: behind " + length, feedBlanks(x), length <= 480 ? length + 20 : -1);
            int then = length <= 480 ? length + 20 : length;
            Checks.due("8: so many are there", x.end(then), true);
            Checks.due("8: and no more", x.end(then + 1), false);
        }
    }

    private static void endUpToItsEnds() {
        for (int length : new int[] {0, 1, 19, 20, 21, 480, 499, 500}) {
            GlassValley x = withTape(length);
            for (int not : new int[] {Integer.MIN_VALUE, -500, -1, length + 1, 501, Integer.MAX_VALUE}) {
                Checks.due("9: end(" + not + ") of " + length, x.end(not), false);
            }
            Checks.due("9: end(" + length + ") of " + length, x.end(length), true);
            if (length > 0) {
                Checks.due("9: one less than " + length, x.end(length - 1), true);
                Checks.due("9: " + length + " then", x.end(length), false);
            }
            Checks.due("9: end(0) of " + length, x.end(0), true);
            Checks.due("9: end(1) then", x.end(1), false);
            Checks.due("8: the first bytes again", feedBlanks(x), 20);
        }
    }

    private static void whatIsCutIsGone() {
        GlassValley x = new GlassValley();
        Checks.feed(x, "own 0 by 1; free 9;");
        Checks.due("9: end(11)", x.end(11), true);
        feedBlanks(x);
        Checks.due("9: one line is left", x.custom(), 1);
        Checks.due("9: which holds", x.may(0, 0, 0), 0);
        Checks.feed(x, "free 12");
        x.end(6);
        x.feed(0x3b202020, States.BLANKS, States.BLANKS, States.BLANKS, States.BLANKS);
        Checks.due("9: new bytes behind the sixth", x.custom(), 1);
        Checks.feed(x, "free 1;;");
        x.custom();
        feedBlanks(x);
        Checks.due("10: nothing of the older tape", x.custom(), 0);
    }

    // ---- tokens

    private static void anEmptyTapeIsACustom() {
        dueLines("", 0);
        dueLines(" ", 0);
        dueLines("\n", 0);
        dueLines(" \n ".repeat(100), 0);
        GlassValley x = new GlassValley();
        Checks.custom(x, "own 0 by 1; bar 1 from 0 to 51;");
        Checks.due("10: an empty one", x.custom(), 0);
        Checks.due("10: frees", x.may(0, 0, 0), 1);
        Checks.due("10: and bars nothing", x.may(0, 1, 0), 1);
    }

    private static void blanksAre32And10Alone() {
        for (char c = 0; c < 256; c++) {
            boolean blank = c == 32 || c == 10;
            GlassValley x = new GlassValley();
            Checks.due("10: the byte " + (int) c + " alone", Checks.custom(x, String.valueOf(c)), blank ? 0 : -1);
            Checks.due("11: its fault", x.fault(0), blank ? 0 : 1);
            Checks.due("11: its place", x.fault(1), blank ? -1 : 0);
            Checks.custom(x, "free 5;" + c + "free 5;");
            Checks.due("11: the byte " + (int) c + " between lines", x.fault(0), blank ? 0 : 1);
            Checks.due("11: its place between lines", x.fault(1), blank ? -1 : 7);
        }
    }

    private static void blanksBetweenOrNone() {
        dueLines("own0by0;lend0to0until0;bar0from0to0;free0;", 4);
        dueLines("\n own\n 0 \nby\n\n0  ; \n", 1);
        dueLines("lend  05\nto 03 until\n51\n;", 1);
        dueFault("o wn 0 by 0;", 1, 0);
        dueFault("own 0 b y 0;", 1, 6);
        dueFault("own 0by 1 1;", 1, 10);
        dueFault("ownby", 1, 0);
        dueFault("own 0 byby 0;", 1, 6);
        dueFault("free 0;free", 1, 11);
        dueFault("free 0;free ", 1, 12);
    }

    private static void keywordsAreWholeWords() {
        String[] words = {"own", "by", "lend", "to", "until", "bar", "from", "free"};
        String[] ahead = {"", "own 0 ", "", "lend 0 ", "lend 0 to 0 ", "", "bar 0 ", ""};
        for (int n = 0; n < words.length; n++) {
            int place = ahead[n].length();
            String word = words[n];
            dueFault(ahead[n] + word, 1, place + word.length());
            dueFault(ahead[n] + word.substring(0, word.length() - 1), 1, place);
            dueFault(ahead[n] + word.substring(1), 1, place);
            for (char c : new char[] {'a', 'z', 'A', 'Z'}) {
                dueFault(ahead[n] + word + c, 1, place);
                dueFault(ahead[n] + c + word, 1, place);
            }
            for (char c : new char[] {'@', '[', '`', '{', '/', ':'}) {
                dueFault(ahead[n] + word + c, 1, place + word.length());
            }
            dueFault(ahead[n] + word.toUpperCase(), 1, place);
            dueFault(ahead[n] + word.substring(0, 1).toUpperCase() + word.substring(1), 1, place);
        }
    }

    // ---- numbers

    private static void numbersOfOneOrTwoDigits() {
        dueLines("free 0;", 1);
        dueLines("free 00;", 1);
        dueLines("free 05;", 1);
        dueFault("free 000;", 1, 5);
        dueFault("free 005;", 1, 5);
        dueFault("free 100;", 1, 5);
        dueFault("free 4294967296;", 1, 5);
        dueFault("free " + "0".repeat(400) + ";", 1, 5);
        dueFault("free ;", 1, 5);
        dueFault("free -1;", 1, 5);
        dueFault("free 1 1;", 1, 7);
        dueFault("own 0 by 000;", 1, 9);
        dueFault("lend 0 to 0 until 000;", 1, 18);
        dueFault("bar 0 from 000 to 1;", 1, 11);
        dueFault("bar 0 from 0 to 001;", 1, 16);
    }

    /** Each NUMBER of a line: what stands ahead of it, what behind it. */
    private static void dueUpTo(int most, String ahead, String behind) {
        for (int n = 0; n <= 99; n++) {
            for (String digits : n < 10 ? new String[] {"" + n, "0" + n} : new String[] {"" + n}) {
                if (n <= most) {
                    dueLines(ahead + digits + behind, 1);
                } else {
                    dueFault(ahead + digits + behind, 2, ahead.length());
                    dueFault(ahead + digits, 2, ahead.length());
                }
            }
        }
    }

    private static void patternsUpTo5() {
        dueUpTo(5, "own ", " by 0;");
        dueUpTo(5, "lend ", " to 0 until 0;");
        dueUpTo(5, "bar ", " from 0 to 0;");
        dueUpTo(5, "free ", ";");
    }

    private static void familiesUpTo3() {
        dueUpTo(3, "own 0 by ", ";");
        dueUpTo(3, "lend 0 to ", " until 0;");
    }

    private static void weeksUpTo51() {
        dueUpTo(51, "lend 0 to 0 until ", ";");
        dueUpTo(51, "bar 0 from ", " to 51;");
        dueUpTo(51, "bar 0 from 0 to ", ";");
    }

    private static void theSecondWeekOfABar() {
        for (int first = 0; first <= 51; first++) {
            String ahead = "bar 0 from " + first + " to ";
            if (first > 0) {
                dueFault(ahead + (first - 1) + ";", 2, ahead.length());
                dueFault(ahead + "0;", 2, ahead.length());
            }
            dueLines(ahead + first + ";", 1);
            dueLines(ahead + "51;", 1);
            dueFault(ahead + "52;", 2, ahead.length());
        }
        // The first week of a lend or of another bar is none of this one's.
        dueLines("bar 0 from 9 to 9; bar 0 from 0 to 0;", 2);
        dueLines("bar 0 from 9 to 9; lend 0 to 0 until 0;", 2);
        dueLines("lend 0 to 3 until 9; bar 0 from 0 to 0;", 2);
    }

    // ---- faults

    /** Each token of a line, and every other that could stand in its place. */
    private static void whatCantStandThere() {
        String[] tokens = {"own", "by", "lend", "to", "until", "bar", "from", "free", "0", ";", "x", ","};
        for (String line : LINES) {
            String[] due = line.replace(";", " ;").split(" ");
            String ahead = "";
            for (int n = 0; n < due.length; n++) {
                for (String token : tokens) {
                    boolean canStand = n == 0 ? "own lend bar free".contains(token) : token.equals(due[n]);
                    if (!canStand) {
                        dueFault(ahead + token, 1, ahead.length());
                        dueFault("free 0;" + ahead + token + " 0;", 1, 7 + ahead.length());
                    }
                }
                ahead += due[n] + " ";
            }
        }
    }

    private static void theEndIsTheTextsLength() {
        for (String line : LINES) {
            // Behind each token but the last something is due: the end can't stand there.
            for (int n = 1; n < line.length(); n++) {
                boolean behindToken = line.charAt(n) == ' ' || line.charAt(n) == ';';
                if (behindToken) {
                    dueFault(line.substring(0, n), 1, n);
                    dueFault(line.substring(0, n) + " \n ", 1, n + 3);
                    dueFault(line + line.substring(0, n), 1, line.length() + n);
                }
            }
        }
    }

    private static void theFirstFaultByItsPlace() {
        dueFault("own 6 by 4;", 2, 4);
        dueFault("own 6 oops", 2, 4);
        dueFault("own oops 6", 1, 4);
        dueFault("bar 0 from 52 to 51;", 2, 11);
        dueFault("bar 6 from 52 to 0;", 2, 4);
        dueFault("lend 0 to 4 until 52;", 2, 10);
        dueFault("free 0; free 6; ;", 2, 13);
        dueFault("free 0; ; free 6;", 1, 8);
        dueFault("free 6;" + "free 0;".repeat(25), 2, 5);
        dueFault("; " + "free 0;".repeat(25), 1, 0);
        dueFault("free 0;".repeat(25) + "free 6;", 3, 168);
    }

    private static void twentyFourLines() {
        for (String line : LINES) {
            dueLines(line.repeat(23), 23);
            dueLines(line.repeat(24), 24);
            dueLines(line.repeat(24) + " \n ", 24);
        }
        GlassValley x = new GlassValley();
        Checks.custom(x, "free 0;".repeat(23) + "own 0 by 3;");
        Checks.due("10: the 24th holds", x.may(0, 0, 0), 0);
        dueLines((LINES[0] + LINES[1] + LINES[2] + LINES[3]).repeat(6), 24);
    }

    private static void the25thLine() {
        for (String line : LINES) {
            String lines = line.repeat(24);
            int place = lines.length();
            dueFault(lines + line, 3, place);
            for (String last : LINES) {
                String word = last.substring(0, last.indexOf(' '));
                dueFault(lines + word, 3, place);
                dueFault(lines + "\n " + word, 3, place + 2);
                dueFault(lines + word + " 99", 3, place);
            }
        }
        dueFault("free 0;".repeat(26), 3, 168);
    }

    private static void at25TheLeastFault() {
        String lines = "free 0;".repeat(24);
        for (String not : new String[] {";", "0", "by", "to", "until", "from", "x", "Own", "\t"}) {
            dueFault(lines + not, 1, 168);
        }
        // A 25th word that begins a line, where none can begin.
        dueFault("free 0;".repeat(23) + "free free 0;", 1, 166);
        dueFault("free 0;".repeat(23) + "free 0 own", 1, 168);
    }

    /** Every cut of a text and every byte at every place of it, held against the plain valley. */
    private static void everyCutAndEveryByte() {
        String text = "own 1 by 2;lend 1 to 0 until 7;bar 3 from 10 to 11;free 5;";
        for (int n = 0; n <= text.length(); n++) {
            dueAsPlain(text.substring(0, n));
            dueAsPlain(text.substring(n));
            for (int b = 0; b < 256 && n < text.length(); b++) {
                dueAsPlain(text.substring(0, n) + (char) b + text.substring(n + 1));
            }
        }
    }

    private static void dueAsPlain(String text) {
        GlassValley x = new GlassValley();
        PlainValley plain = new PlainValley();
        for (int[] n : Checks.feeds(text)) {
            plain.feed(n[0], n[1], n[2], n[3], n[4]);
        }
        plain.end(text.length());
        Checks.due("10: custom of '" + text + "'", Checks.custom(x, text), plain.custom());
        for (int what = 0; what < 2; what++) {
            Checks.due("11: fault(" + what + ") of '" + text + "'", x.fault(what), plain.fault(what));
        }
        for (int p = 0; p < 6; p++) {
            for (int f = 0; f < 4; f++) {
                for (int w = 5; w < 13; w++) {
                    Checks.due("12: may by '" + text + "'", x.may(f, p, w), plain.may(f, p, w));
                }
            }
        }
    }

    private static void aFaultLeavesTheCustom() {
        String[] faulty = {"free 0; free 1; own 2 by 0; x", "free 6;", "free 0;".repeat(25), "own", ";"};
        for (String text : faulty) {
            GlassValley x = new GlassValley();
            Checks.custom(x, "own 0 by 1; lend 0 to 2 until 3; bar 1 from 0 to 51;");
            Checks.due("10: a fault", Checks.custom(x, text), -1);
            Checks.due("10: the tape is empty then", x.end(1), false);
            for (int f = 0; f < 4; f++) {
                Checks.due("10: own and lend stay for " + f, x.may(f, 0, 3), f == 1 || f == 2 ? 1 : 0);
                Checks.due("10: lend ends as it did for " + f, x.may(f, 0, 4), f == 1 ? 1 : 0);
                Checks.due("10: bar stays for " + f, x.may(f, 1, 51), 0);
                Checks.due("10: what was free stays so for " + f, x.may(f, 2, 0), 1);
            }
        }
    }

    private static void theLatestFaultAlone() {
        GlassValley x = new GlassValley();
        Checks.due("11: without a custom no fault", x.fault(0), 0);
        Checks.due("11: and no place", x.fault(1), -1);
        Checks.custom(x, "free 0;".repeat(25));
        Checks.due("11: the 25th", x.fault(0), 3);
        Checks.custom(x, " ;");
        Checks.due("11: the latest is another", x.fault(0), 1);
        Checks.due("11: at another place", x.fault(1), 1);
        Checks.feed(x, "free 0;");
        x.feed(0, 0, 0, 0, 0);
        x.end(7);
        Checks.due("11: the tape has no fault yet", x.fault(0), 1);
        for (int what : new int[] {Integer.MIN_VALUE, -1, 2, 3, Integer.MAX_VALUE}) {
            Checks.due("11: fault(" + what + ")", x.fault(what), -1);
        }
        Checks.due("10: a custom", x.custom(), 1);
        Checks.due("11: no fault", x.fault(0), 0);
        Checks.due("11: no place", x.fault(1), -1);
    }

    // ---- what is told line by line

    private static void dueMay(String text, int p, int week, int... families) {
        GlassValley x = new GlassValley();
        Checks.due("10: a custom '" + text + "'", Checks.custom(x, text) >= 0, true);
        for (int f = 0; f < 4; f++) {
            Checks.due("12: may(" + f + ", " + p + ", " + week + ") by '" + text + "'", x.may(f, p, week), families[f]);
        }
    }

    private static void ownTakesAll() {
        dueMay("own 0 by 0;", 0, 0, 1, 0, 0, 0);
        dueMay("own 5 by 3;", 5, 51, 0, 0, 0, 1);
        dueMay("own 5 by 3;", 4, 51, 1, 1, 1, 1);
        dueMay("own 0 by 1; own 0 by 2;", 0, 0, 0, 0, 1, 0);
        dueMay("own 0 by 1; lend 0 to 2 until 9; own 0 by 3;", 0, 0, 0, 0, 0, 1);
        dueMay("own 0 by 1; lend 0 to 2 until 9; own 0 by 1;", 0, 0, 0, 1, 0, 0);
        dueMay("lend 0 to 2 until 9; own 0 by 1;", 0, 0, 0, 1, 0, 0);
        dueMay("own 0 by 1; own 1 by 2;", 0, 0, 0, 1, 0, 0);
        dueMay("own 0 by 1; lend 0 to 2 until 9; own 1 by 3;", 0, 9, 0, 1, 1, 0);
        dueMay("bar 0 from 3 to 3; own 0 by 1;", 0, 3, 0, 0, 0, 0);
        dueMay("free 0; own 0 by 1;", 0, 0, 0, 1, 0, 0);
    }

    private static void lentUpToTheEndOfAWeek() {
        for (int until = 0; until <= 51; until++) {
            String text = "own 3 by 0; lend 3 to 2 until " + until + ";";
            dueMay(text, 3, 0, 1, 0, 1, 0);
            dueMay(text, 3, until, 1, 0, 1, 0);
            if (until < 51) {
                dueMay(text, 3, until + 1, 1, 0, 0, 0);
                dueMay(text, 3, 51, 1, 0, 0, 0);
            }
        }
        dueMay("own 0 by 1; lend 0 to 1 until 3;", 0, 51, 0, 1, 0, 0);
        dueMay("lend 0 to 1 until 3;", 0, 51, 1, 1, 1, 1);
        dueMay("own 0 by 0; lend 0 to 1 until 1; lend 0 to 2 until 2; lend 0 to 3 until 3;", 0, 2, 1, 0, 1, 1);
        dueMay("own 0 by 0; own 1 by 0; lend 1 to 2 until 9;", 0, 0, 1, 0, 0, 0);
    }

    private static void ofSeveralTheLatest() {
        for (String text : new String[] {"lend 0 to 1 until 8; lend 0 to 1 until 7;",
            "lend 0 to 1 until 7; lend 0 to 1 until 8;", "lend 0 to 1 until 8; lend 0 to 1 until 8;",
            "lend 0 to 1 until 0; lend 0 to 1 until 8; lend 0 to 1 until 0;"}) {
            dueMay("own 0 by 0;" + text, 0, 8, 1, 1, 0, 0);
            dueMay("own 0 by 0;" + text, 0, 9, 1, 0, 0, 0);
        }
        dueMay("own 0 by 0; lend 0 to 1 until 9; own 0 by 0; lend 0 to 1 until 5;", 0, 6, 1, 0, 0, 0);
    }

    private static void barredFromTheOneWeekToTheOther() {
        int[][] bars = {{0, 0}, {0, 51}, {51, 51}, {7, 9}, {31, 33}, {0, 31}, {32, 51}, {50, 51}};
        for (int[] bar : bars) {
            GlassValley x = new GlassValley();
            Checks.custom(x, "own 2 by 1; lend 2 to 3 until 51; bar 2 from " + bar[0] + " to " + bar[1] + ";");
            for (int w = 0; w <= 51; w++) {
                int may = w >= bar[0] && w <= bar[1] ? 0 : 1;
                Checks.due("12: the owner in " + w, x.may(1, 2, w), may);
                Checks.due("12: lent to, in " + w, x.may(3, 2, w), may);
                Checks.due("12: another pattern in " + w, x.may(0, 3, w), 1);
                Checks.due("12: the pattern ahead in " + w, x.may(0, 1, w), 1);
            }
        }
        dueMay("bar 0 from 1 to 2; bar 0 from 4 to 5;", 0, 3, 1, 1, 1, 1);
        dueMay("bar 0 from 1 to 2; bar 0 from 4 to 5;", 0, 2, 0, 0, 0, 0);
        dueMay("bar 0 from 1 to 2; bar 0 from 2 to 5;", 0, 1, 0, 0, 0, 0);
        dueMay("bar 0 from 1 to 5; bar 0 from 2 to 3;", 0, 5, 0, 0, 0, 0);
    }

    private static void freeForAll() {
        dueMay("own 0 by 1; free 0;", 0, 51, 1, 1, 1, 1);
        dueMay("own 0 by 1; free 1;", 0, 51, 0, 1, 0, 0);
        dueMay("own 5 by 1; free 5; own 5 by 2;", 5, 0, 0, 0, 1, 0);
        dueMay("own 0 by 1; lend 0 to 2 until 9; free 0; own 0 by 3;", 0, 0, 0, 0, 0, 1);
        dueMay("bar 0 from 5 to 6; free 0;", 0, 5, 0, 0, 0, 0);
        dueMay("bar 0 from 5 to 6; free 0;", 0, 7, 1, 1, 1, 1);
    }

    private static void aNewCustomBeginsAnew() {
        GlassValley x = new GlassValley();
        Checks.custom(x, "own 0 by 1; lend 0 to 2 until 51; bar 1 from 0 to 51; own 2 by 2;");
        Checks.custom(x, "lend 0 to 2 until 3; bar 3 from 4 to 4;");
        for (int f = 0; f < 4; f++) {
            Checks.due("12: 0 is nobody's more", x.may(f, 0, 51), 1);
            Checks.due("12: 1 is barred no more", x.may(f, 1, 0), 1);
            Checks.due("12: 2 is nobody's more", x.may(f, 2, 0), 1);
            Checks.due("12: 3 is barred", x.may(f, 3, 4), 0);
        }
        Checks.custom(x, "own 0 by 0;");
        Checks.due("12: nothing is lent of older customs", x.may(2, 0, 0), 0);
        Checks.due("12: nor is 3 barred", x.may(2, 3, 4), 1);
        Checks.due("12: nor 1", x.may(2, 1, 0), 1);
        Checks.due("12: nor is 2 owned", x.may(0, 2, 0), 1);
        for (int n = 0; n < 3; n++) {
            x.custom();
            for (int p = 0; p < 6; p++) {
                Checks.due("12: nothing stays through empty customs", x.may(3, p, 4), 1);
            }
        }
    }
}
