/** Part 1 of the document's terms, and the promises 1 to 7 by it: what can be, up to its ends. */
public final class Part1EdgesTest {
    private static final int LAST = 51;

    public static void main(String[] args) {
        week0IsNowAtFirst();
        allMayMakeAllAtFirst();
        fortyHoursInEachWeekAtFirst();
        hoursUpToTheirEnds();
        hoursOfOneFamilyInOneWeekAlone();
        hoursNowButNotBehind();
        noSilverAtFirst();
        patternsAtFirst();
        patternsUpToTheirEnds();
        madeIsTheFewest();
        whatBreaksIsDividedUpwards();
        sevenOrdersNumberedAsTheyCome();
        ordersUpToTheirEnds();
        dueNowOrLater();
        silverUpTo99999();
        silverBroughtBackIsLentAgain();
        droppedUpToTheSeventh();
        Checks.finish();
    }

    /** Family f alone can make pattern 0, from the week on. */
    private static GlassValley readyIn(int week, int f) {
        GlassValley x = new GlassValley();
        Checks.custom(x, "own 0 by " + f + "; own 1 by " + f + ";");
        x.pattern(0, 1, 0, 0);
        x.pattern(1, 1, 0, 0);
        for (int w = 0; w < week; w++) {
            x.hours(f, w, 0);
        }
        return x;
    }

    /** Orders for so many hours and for one more, all due in the week: the first fit, all don't. */
    private static void dueHours(String about, GlassValley x, int hours, int week, int f) {
        x.pattern(0, Math.max(1, hours / 11), 0, 0);
        x.order(0, 11, week, 500);
        x.order(1, Math.max(1, hours % 11), week, 50);
        x.order(1, 1, week, 5);
        Checks.due(about + ": so many fit", x.best(0), 550);
        Checks.due(about + ": over in", x.best(20), week);
        Checks.due(about + ": by", x.best(11), f);
        Checks.due(about + ": no hour more", x.best(12), -1);
    }

    private static void week0IsNowAtFirst() {
        GlassValley x = new GlassValley();
        Checks.due("1: week 0", x.look(0), 0);
        Checks.due("1: no orders", x.look(1), 0);
        for (int i = 0; i < 7; i++) {
            for (int what = 0; what < 10; what++) {
                Checks.due("1: of(" + i + ", " + what + ")", x.of(i, what), -1);
            }
            Checks.due("1: drop(" + i + ")", x.drop(i), false);
            Checks.due("1: best(1" + i + ")", x.best(10 + i), -1);
            Checks.due("1: best(2" + i + ")", x.best(20 + i), -1);
        }
        Checks.due("1: the tape is empty", x.end(1), false);
        Checks.due("1: an empty tape ends at 0", x.end(0), true);
        Checks.due("1: the constant", GlassValley.NONE, -1);
    }

    private static void allMayMakeAllAtFirst() {
        for (int f = 0; f < 4; f++) {
            GlassValley x = new GlassValley();
            for (int p = 0; p < 6; p++) {
                for (int w = 0; w <= LAST; w++) {
                    Checks.due("1: may(" + f + ", " + p + ", " + w + ")", x.may(f, p, w), 1);
                }
            }
        }
    }

    private static void fortyHoursInEachWeekAtFirst() {
        for (int f = 0; f < 4; f++) {
            for (int w = 0; w <= LAST; w++) {
                // 40 is 33 and 7, the smallest order of which is 11 gross of 3 hours.
                dueHours("1: 40 hours of " + f + " in " + w, readyIn(w, f), 40, w, f);
            }
        }
    }

    private static void hoursUpToTheirEnds() {
        for (int f = 0; f < 4; f++) {
            for (int w = 0; w <= LAST; w++) {
                GlassValley most = readyIn(w, f);
                Checks.due("2: 99 hours", most.hours(f, w, 99), true);
                most.pattern(0, 9, 0, 0);
                most.order(0, 11, w, 500);
                most.order(1, 1, w, 50);
                Checks.due("2: 99 hours of " + f + " in " + w, most.best(0), 500);
                Checks.due("2: not 98", most.hours(f, w, 98), true);
                Checks.due("2: 98 hours of " + f + " in " + w, most.best(0), 50);
                Checks.due("2: no hours", most.hours(f, w, 0), true);
                Checks.due("2: no hours of " + f + " in " + w, most.best(0), 0);
                Checks.due("2: an hour", most.hours(f, w, 1), true);
                Checks.due("2: an hour of " + f + " in " + w, most.best(0), 50);
            }
        }
    }

    private static void hoursOfOneFamilyInOneWeekAlone() {
        for (int f = 0; f < 4; f++) {
            for (int w = 19; w <= 21; w++) {
                GlassValley y = readyIn(w, f);
                y.hours((f + 1) % 4, w, 99);
                y.hours((f + 3) % 4, w, 0);
                y.hours(f, w + 1, 99);
                dueHours("2: hours of others, or later, are not those of " + f + " in " + w, y, 40, w, f);
            }
        }
    }

    private static void hoursNowButNotBehind() {
        GlassValley x = new GlassValley();
        for (int w = 0; w <= LAST; w++) {
            Checks.due("2: the week behind " + w, x.hours(0, w - 1, 5), false);
            Checks.due("2: the week now " + w, x.hours(0, w, 5), true);
            Checks.due("2: the last week in " + w, x.hours(0, LAST, 5), true);
            Checks.due("2: the week beyond the last in " + w, x.hours(0, LAST + 1, 5), false);
            x.work();
        }
    }

    private static void noSilverAtFirst() {
        GlassValley x = new GlassValley();
        for (int f = 0; f < 4; f++) {
            Checks.due("1: no silver of " + f, x.look(10 + f), 0);
            Checks.due("1: none used by " + f, x.look(20 + f), 0);
            Checks.due("5: none brought by " + f, x.bring(f), 0);
        }
        x.pattern(0, 1, 1, 0);
        x.order(0, 1, LAST, 9);
        Checks.due("3: a gram is too much for who has none", x.best(0), 0);
        x.pattern(0, 1, 0, 0);
        Checks.due("3: no gram is not", x.best(0), 9);
    }

    private static void dueOrder(String about, GlassValley x, int i, int made, int work, int silver) {
        Checks.due(about + ": made", x.of(i, 4), made);
        Checks.due(about + ": work", x.of(i, 5), work);
        Checks.due(about + ": silver", x.of(i, 6), silver);
    }

    private static void patternsAtFirst() {
        for (int p = 0; p < 6; p++) {
            GlassValley x = new GlassValley();
            x.order(p, 1, 0, 1);
            x.order(p, 20, 0, 1);
            dueOrder("1: a gross of " + p, x, 0, 1, 5, 2);
            dueOrder("1: 20 gross of " + p, x, 1, 20, 100, 40);
        }
    }

    private static void patternsUpToTheirEnds() {
        for (int p = 0; p < 6; p++) {
            GlassValley x = new GlassValley();
            x.order(p, 20, 0, 1);
            x.order((p + 1) % 6, 20, 0, 1);
            x.order((p + 5) % 6, 20, 0, 1);
            Checks.due("3: the most of " + p, x.pattern(p, 30, 20, 90), true);
            dueOrder("3: the most of " + p, x, 0, 200, 6000, 4000);
            Checks.due("3: the least of " + p, x.pattern(p, 1, 0, 0), true);
            dueOrder("3: the least of " + p, x, 0, 20, 20, 0);
            dueOrder("3: the pattern behind " + p, x, 1, 20, 100, 40);
            dueOrder("3: the pattern ahead of " + p, x, 2, 20, 100, 40);
            x.order(p, 20, 0, 1);
            dueOrder("3: an order that comes later", x, 3, 20, 20, 0);
        }
    }

    private static int made(int gross, int breaks) {
        GlassValley x = new GlassValley();
        x.pattern(0, 1, 1, breaks);
        x.order(0, gross, 0, 1);
        return x.of(0, 4);
    }

    private static void madeIsTheFewest() {
        for (int breaks = 0; breaks <= 90; breaks++) {
            for (int gross = 1; gross <= 20; gross++) {
                int m = made(gross, breaks);
                String about = "6: " + gross + " gross of which " + breaks + " of 100 break";
                Checks.due(about + ": enough come whole", m * 100 - m * breaks >= gross * 100, true);
                Checks.due(about + ": not of one less", (m - 1) * 100 - (m - 1) * breaks < gross * 100, true);
            }
        }
    }

    private static void whatBreaksIsDividedUpwards() {
        Checks.due("6: 1 of 100, the least order", made(1, 1), 2);
        Checks.due("6: 1 of 100, the greatest order", made(20, 1), 21);
        Checks.due("6: 10 of 100 of 10 is 1, nothing is rounded", made(9, 10), 10);
        Checks.due("6: 10 of 100 of 11 is 2", made(10, 10), 12);
        Checks.due("6: half of 2", made(1, 50), 2);
        Checks.due("6: half of 40", made(20, 50), 40);
        Checks.due("6: 51 of 100", made(1, 51), 3);
        Checks.due("6: 89 of 100", made(20, 89), 182);
        Checks.due("6: the most breaks, the least order", made(1, 90), 10);
        Checks.due("6: the most breaks, the greatest order", made(20, 90), 200);
        Checks.due("6: no breaks, the least order", made(1, 0), 1);
        Checks.due("6: no breaks, the greatest order", made(20, 0), 20);
    }

    private static void sevenOrdersNumberedAsTheyCome() {
        GlassValley x = new GlassValley();
        for (int i = 0; i < 7; i++) {
            Checks.due("6: a refused one takes no number", x.order(0, 21, 0, 1), -1);
            Checks.due("14: none such yet", x.of(i, 0), -1);
            Checks.due("6: order " + i, x.order(i % 6, 1 + i, i, 10 + i), i);
            Checks.due("13: came", x.look(1), i + 1);
            Checks.due("13: open", x.look(2), i + 1);
        }
        Checks.due("6: there are 7", x.order(0, 1, 0, 1), -1);
        Checks.due("13: still 7", x.look(1), 7);
        for (int i = 0; i < 7; i++) {
            Checks.due("14: pattern of " + i, x.of(i, 0), i % 6);
            Checks.due("14: gross of " + i, x.of(i, 1), 1 + i);
            Checks.due("14: due week of " + i, x.of(i, 2), i);
            Checks.due("14: price of " + i, x.of(i, 3), 10 + i);
        }
        x.work();
        Checks.due("13: one is lost", x.look(4), 1);
        Checks.due("6: a lost one makes no room", x.order(0, 1, 1, 1), -1);
        x.lend(0, 99);
        x.work();
        Checks.due("13: some are done", x.look(3) > 0, true);
        Checks.due("6: a done one makes no room", x.order(0, 1, 2, 1), -1);
    }

    private static void ordersUpToTheirEnds() {
        int[][] corners = {{0, 1, 0, 1}, {5, 20, 51, 9999}, {0, 20, 0, 9999}, {5, 1, 51, 1}};
        GlassValley x = new GlassValley();
        for (int i = 0; i < corners.length; i++) {
            int[] c = corners[i];
            Checks.due("6: corner " + i, x.order(c[0], c[1], c[2], c[3]), i);
            for (int what = 0; what < 4; what++) {
                Checks.due("14: corner " + i + ", what " + what, x.of(i, what), c[what]);
            }
        }
    }

    private static void dueNowOrLater() {
        for (int now : new int[] {1, 25, 50, 51}) {
            GlassValley x = new GlassValley();
            for (int w = 0; w < now; w++) {
                x.work();
            }
            Checks.due("6: due in the week behind " + now, x.order(0, 1, now - 1, 1), -1);
            Checks.due("6: due in week 0, in " + now, x.order(0, 1, 0, 1), -1);
            Checks.due("6: due now, in " + now, x.order(0, 1, now, 1), 0);
            Checks.due("6: due in the last, in " + now, x.order(0, 1, 51, 1), 1);
            Checks.due("6: due beyond the last, in " + now, x.order(0, 1, 52, 1), -1);
            Checks.due("13: two came, in " + now, x.look(1), 2);
        }
    }

    private static void silverUpTo99999() {
        for (int f = 0; f < 4; f++) {
            GlassValley x = new GlassValley();
            for (int n = 1; n <= 9; n++) {
                Checks.due("4: 9999 grams", x.lend(f, 9999), true);
                Checks.due("13: so far", x.look(10 + f), 9999 * n);
            }
            x.lend(f, 10);
            Checks.due("4: one gram too many at once", x.lend(f, 9999), false);
            Checks.due("4: nothing was lent", x.look(10 + f), 90001);
            Checks.due("4: just enough at once", x.lend(f, 9998), true);
            Checks.due("4: 99999 grams", x.look(10 + f), 99999);
            Checks.due("4: not one more", x.lend(f, 1), false);
            Checks.due("4: nothing was lent", x.look(10 + f), 99999);
            Checks.due("4: another family has room", x.lend((f + 1) % 4, 9999), true);
            Checks.due("5: all of it is brought", x.bring(f), 99999);
            Checks.due("5: none is left", x.look(10 + f), 0);
            Checks.due("5: the other's is left", x.look(10 + (f + 1) % 4), 9999);
        }
    }

    private static void silverBroughtBackIsLentAgain() {
        GlassValley x = States.FULL.valley();
        Checks.due("4: full", x.lend(1, 1), false);
        x.bring(1);
        Checks.due("4: room again", x.lend(1, 9999), true);
        GlassValley y = new GlassValley();
        for (int n = 0; n < 10; n++) {
            y.lend(0, 9999);
        }
        y.lend(0, 9);
        y.order(0, 1, 0, 1);
        y.work();
        Checks.due("16: 2 grams were used", y.look(10), 99997);
        Checks.due("4: 3 are too many then", y.lend(0, 3), false);
        Checks.due("4: 2 can be lent again", y.lend(0, 2), true);
        Checks.due("13: 99999 again", y.look(10), 99999);
        Checks.due("13: used in all", y.look(20), 2);
    }

    private static void droppedUpToTheSeventh() {
        GlassValley x = States.FULL.valley();
        for (int i = 6; i >= 0; i--) {
            Checks.due("7: drop " + i, x.drop(i), true);
            Checks.due("7: drop " + i + " again", x.drop(i), false);
            Checks.due("14: dropped " + i, x.of(i, 7), 2);
            Checks.due("13: open", x.look(2), i);
            Checks.due("15: in no way", x.best(10 + i), -1);
        }
        Checks.due("15: nothing is left", x.best(0), 0);
        Checks.due("13: neither done", x.look(3), 0);
        Checks.due("13: nor lost", x.look(4), 0);
    }
}
