/** Part 4 of the document's terms, and the promises 13, 14 and 16 by it: weeks that are worked. */
public final class Part4EdgesTest {
    private static final int OPEN = 0;
    private static final int DONE = 1;
    private static final int DROPPED = 2;
    private static final int LOST = 3;

    public static void main(String[] args) {
        weeksUpTo51();
        anEmptyValleyWorks();
        week50IsTheLastThatIsWorked();
        overInTheWeekIsDone();
        anHourLeftIsNotDone();
        silverIsUsedWhenItIsOver();
        silverIsUsedUpToNothing();
        pricesAreEarned();
        worked();
        noHoursNoWork();
        begunLaterIsNotWorkedAt();
        anotherOneBeginsAnew();
        theFirstOneBeginsAnewThen();
        aPatternToldAnewLosesWhatWasWorked();
        lostBehindItsDueWeek();
        neverLostInTheLastWeek();
        doneAndDroppedAreNotLost();
        lostIsNeitherOpenNorDropped();
        bestAsTheWeekBegins();
        severalOversInAWeek();
        looks();
        ofs();
        Checks.finish();
    }

    private static GlassValley withSilver(int... grams) {
        GlassValley x = new GlassValley();
        for (int f = 0; f < grams.length; f++) {
            x.lend(f, grams[f]);
        }
        return x;
    }

    private static void dueWorked(String about, GlassValley x, int i, int state, int hours, int by) {
        Checks.due("14: " + about + ", state of " + i, x.of(i, 7), state);
        Checks.due("14: " + about + ", hours worked at " + i, x.of(i, 8), hours);
        Checks.due("14: " + about + ", family of " + i, x.of(i, 9), by);
    }

    private static void dueCounts(String about, GlassValley x, int open, int done, int lost, int earned) {
        Checks.due("13: " + about + ", open", x.look(2), open);
        Checks.due("13: " + about + ", done", x.look(3), done);
        Checks.due("13: " + about + ", lost", x.look(4), lost);
        Checks.due("13: " + about + ", earned", x.look(5), earned);
    }

    private static void weeksUpTo51() {
        GlassValley x = new GlassValley();
        for (int w = 1; w <= 51; w++) {
            Checks.due("13: the week ahead of " + w, x.look(0), w - 1);
            Checks.due("16: the new week", x.work(), w);
        }
        for (int n = 0; n < 3; n++) {
            Checks.due("16: in week 51", x.work(), -1);
            Checks.due("13: still week 51", x.look(0), 51);
        }
    }

    private static void anEmptyValleyWorks() {
        GlassValley x = withSilver(9, 9, 9, 9);
        Checks.due("16: no orders", x.work(), 1);
        dueCounts("no orders", x, 0, 0, 0, 0);
        for (int f = 0; f < 4; f++) {
            Checks.due("13: silver of " + f, x.look(10 + f), 9);
            Checks.due("13: used by " + f, x.look(20 + f), 0);
        }
    }

    private static void week50IsTheLastThatIsWorked() {
        GlassValley x = new GlassValley();
        x.order(0, 1, 51, 7);
        x.order(1, 1, 50, 5);
        for (int w = 0; w < 50; w++) {
            x.work();
        }
        dueCounts("in week 50", x, 2, 0, 0, 0);
        x.lend(0, 4);
        x.hours(0, 50, 5);
        Checks.due("16: week 50", x.work(), 51);
        dueCounts("week 50 was worked", x, 1, 1, 0, 5);
        Checks.due("15: week 51 is planned", x.best(20), 51);
        Checks.due("16: week 51", x.work(), -1);
        dueCounts("week 51 is not worked", x, 1, 1, 0, 5);
        dueWorked("week 51 is not worked", x, 0, OPEN, 0, -1);
        Checks.due("13: its silver is not used", x.look(10), 2);
    }

    private static void overInTheWeekIsDone() {
        GlassValley x = withSilver(99);
        x.order(0, 8, 9, 7);
        x.work();
        dueWorked("over with the week's last hour", x, 0, DONE, 40, 0);
        dueCounts("over with the week's last hour", x, 0, 1, 0, 7);
        x.work();
        dueWorked("a week later", x, 0, DONE, 40, 0);
        dueCounts("a week later", x, 0, 1, 0, 7);
    }

    private static void anHourLeftIsNotDone() {
        GlassValley x = withSilver(99);
        x.hours(0, 0, 39);
        x.order(0, 8, 9, 7);
        x.work();
        dueWorked("an hour is left", x, 0, OPEN, 39, 0);
        dueCounts("an hour is left", x, 1, 0, 0, 0);
        Checks.due("15: an hour", x.best(1), 1);
        x.hours(0, 1, 1);
        x.work();
        dueWorked("no hour is left", x, 0, DONE, 40, 0);
        dueCounts("no hour is left", x, 0, 1, 0, 7);
    }

    private static void silverIsUsedWhenItIsOver() {
        GlassValley x = withSilver(0, 30);
        x.order(0, 9, 9, 7);
        x.work();
        Checks.due("13: had while it is made", x.look(11), 30);
        Checks.due("13: used while it is made", x.look(21), 0);
        x.work();
        Checks.due("13: had behind", x.look(11), 12);
        Checks.due("13: used behind", x.look(21), 18);
        for (int f = 0; f < 4; f++) {
            Checks.due("13: used by others", f == 1 ? 0 : x.look(20 + f), 0);
        }
        Checks.due("5: brought", x.bring(1), 12);
        Checks.due("13: what was used stays", x.look(21), 18);
    }

    private static void silverIsUsedUpToNothing() {
        GlassValley x = new GlassValley();
        for (int f = 0; f < 4; f++) {
            x.lend(f, 16);
            x.order(f, 8, 0, 7);
        }
        x.work();
        for (int f = 0; f < 4; f++) {
            dueWorked("all by all", x, f, DONE, 40, f);
            Checks.due("13: nothing is left to " + f, x.look(10 + f), 0);
            Checks.due("13: used by " + f, x.look(20 + f), 16);
            Checks.due("5: nothing to bring by " + f, x.bring(f), 0);
        }
        GlassValley y = new GlassValley();
        y.pattern(0, 1, 0, 0);
        y.order(0, 1, 0, 7);
        y.work();
        dueWorked("without silver", y, 0, DONE, 1, 0);
        Checks.due("13: no silver was used", y.look(20), 0);
    }

    private static void pricesAreEarned() {
        GlassValley x = withSilver(999);
        for (int i = 0; i < 7; i++) {
            x.order(i % 6, 1, 0, 9999);
        }
        x.work();
        dueCounts("seven", x, 0, 7, 0, 69993);
        Checks.due("15: nothing more", x.best(0), 0);
    }

    private static void worked() {
        GlassValley x = withSilver(0, 0, 0, 999);
        x.order(0, 20, 9, 7);
        for (int w = 1; w <= 2; w++) {
            x.work();
            dueWorked("in week " + w, x, 0, OPEN, 40 * w, 3);
            Checks.due("14: the whole work", x.of(0, 5), 100);
            Checks.due("15: what is left", x.best(1), 100 - 40 * w);
            Checks.due("15: over in", x.best(20), 2);
        }
        x.work();
        dueWorked("over", x, 0, DONE, 100, 3);
    }

    private static void noHoursNoWork() {
        GlassValley x = withSilver(99);
        x.hours(0, 0, 0);
        x.order(0, 1, 1, 7);
        x.work();
        dueWorked("a week without hours", x, 0, OPEN, 0, -1);
        x.work();
        dueWorked("a week with hours", x, 0, DONE, 5, 0);
        GlassValley y = new GlassValley();
        y.order(0, 1, 1, 7);
        y.work();
        dueWorked("nobody has silver", y, 0, OPEN, 0, -1);
    }

    private static void begunLaterIsNotWorkedAt() {
        GlassValley x = withSilver(99);
        x.order(0, 1, 9, 5);
        x.order(0, 16, 1, 7);
        Checks.due("15: both can be", x.best(0), 12);
        x.work();
        dueWorked("the one ahead takes two weeks", x, 1, OPEN, 40, 0);
        dueWorked("the one behind it", x, 0, OPEN, 0, -1);
        x.work();
        dueWorked("the one ahead took all of both", x, 1, DONE, 80, 0);
        dueWorked("the one behind it", x, 0, OPEN, 0, -1);
        x.work();
        dueWorked("the one behind it, begun then", x, 0, DONE, 5, 0);
    }

    private static void anotherOneBeginsAnew() {
        GlassValley x = withSilver(99);
        x.order(0, 20, 9, 7);
        x.work();
        x.bring(0);
        x.lend(2, 99);
        Checks.due("15: all of it", x.best(1), 100);
        Checks.due("15: the other", x.best(10), 2);
        dueWorked("until the other works", x, 0, OPEN, 40, 0);
        x.hours(2, 1, 1);
        x.work();
        dueWorked("an hour of the other", x, 0, OPEN, 1, 2);
        Checks.due("15: what is left for the other", x.best(1), 99);
    }

    private static void theFirstOneBeginsAnewThen() {
        GlassValley x = withSilver(99);
        x.order(0, 20, 9, 7);
        x.work();
        x.bring(0);
        x.lend(2, 99);
        x.work();
        x.bring(2);
        x.lend(0, 99);
        Checks.due("15: the first one", x.best(10), 0);
        Checks.due("15: all of it again", x.best(1), 100);
        x.work();
        dueWorked("the first one anew", x, 0, OPEN, 40, 0);
    }

    private static void aPatternToldAnewLosesWhatWasWorked() {
        GlassValley x = withSilver(999);
        x.order(0, 4, 0, 1);
        x.order(0, 20, 9, 7);
        x.order(1, 20, 9, 7);
        x.order(0, 20, 0, 9);
        x.work();
        dueWorked("ahead", x, 1, OPEN, 20, 0);
        Checks.due("3: refused", x.pattern(0, 31, 2, 0), false);
        dueWorked("refused", x, 1, OPEN, 20, 0);
        Checks.due("3: another pattern", x.pattern(1, 5, 2, 0), true);
        dueWorked("another pattern", x, 1, OPEN, 20, 0);
        Checks.due("3: as it was", x.pattern(0, 5, 2, 0), true);
        dueWorked("told anew", x, 1, OPEN, 0, -1);
        dueWorked("a done one stays", x, 0, DONE, 20, 0);
        Checks.due("15: all of it", x.best(1), 200);
        Checks.due("3: another", x.pattern(0, 1, 1, 50), true);
        Checks.due("14: an open one is by that", x.of(1, 4), 40);
        Checks.due("14: a done one is not", x.of(0, 4), 4);
        Checks.due("14: a lost one is not", x.of(3, 4), 20);
        Checks.due("14: the silver of a done one", x.of(0, 6), 8);
        Checks.due("14: the work of a lost one", x.of(3, 5), 100);
    }

    private static void lostBehindItsDueWeek() {
        for (int due = 0; due <= 50; due++) {
            GlassValley x = new GlassValley();
            x.order(0, 1, due, 7);
            for (int w = 0; w < due; w++) {
                x.work();
            }
            dueWorked("in its due week " + due, x, 0, OPEN, 0, -1);
            x.work();
            dueWorked("behind its due week " + due, x, 0, LOST, 0, -1);
            dueCounts("behind its due week " + due, x, 0, 0, 1, 0);
        }
        GlassValley y = withSilver(99);
        y.order(0, 9, 1, 7);
        y.work();
        y.hours(0, 1, 4);
        y.work();
        Checks.due("14: lost though worked at", y.of(0, 7), LOST);
        Checks.due("13: its silver is not used", y.look(10), 99);
        dueCounts("lost though worked at", y, 0, 0, 1, 0);
    }

    private static void neverLostInTheLastWeek() {
        GlassValley x = States.LAST.valley();
        dueCounts("in week 51", x, 2, 0, 1, 0);
        x.work();
        x.work();
        dueWorked("due in week 51", x, 0, OPEN, 0, -1);
        dueWorked("due in week 51", x, 1, OPEN, 0, -1);
        Checks.due("7: it can be dropped", x.drop(1), true);
        Checks.due("6: an order can come", x.order(0, 1, 51, 1), 3);
    }

    private static void doneAndDroppedAreNotLost() {
        GlassValley x = withSilver(2);
        x.order(0, 1, 0, 7);
        x.order(0, 1, 0, 6);
        x.order(0, 1, 0, 5);
        x.drop(1);
        for (int w = 0; w < 3; w++) {
            x.work();
            dueWorked("done", x, 0, DONE, 5, 0);
            dueWorked("dropped", x, 1, DROPPED, 0, -1);
            dueWorked("lost", x, 2, LOST, 0, -1);
            dueCounts("one of each", x, 0, 1, 1, 7);
        }
    }

    private static void lostIsNeitherOpenNorDropped() {
        GlassValley x = new GlassValley();
        x.order(0, 1, 0, 7);
        x.work();
        x.lend(0, 99);
        Checks.due("15: in no way", x.best(10), -1);
        Checks.due("7: not to be dropped", x.drop(0), false);
        dueWorked("still lost", x, 0, LOST, 0, -1);
        x.work();
        dueWorked("still lost", x, 0, LOST, 0, -1);
        dueCounts("still lost", x, 0, 0, 1, 0);
        Checks.due("13: no silver is used", x.look(10), 99);
    }

    private static void bestAsTheWeekBegins() {
        GlassValley x = withSilver(99);
        x.order(0, 8, 0, 7);
        Checks.due("15: asked", x.best(10), 0);
        x.hours(0, 0, 39);
        x.work();
        dueWorked("hours told behind it", x, 0, LOST, 0, -1);
        GlassValley y = withSilver(99, 99);
        y.order(0, 8, 0, 7);
        Checks.due("15: asked", y.best(10), 0);
        y.bring(0);
        y.work();
        dueWorked("silver brought behind it", y, 0, DONE, 40, 1);
        GlassValley z = withSilver(99);
        z.order(0, 8, 9, 7);
        z.order(1, 8, 0, 9);
        z.work();
        dueWorked("never asked", z, 1, DONE, 40, 0);
        dueWorked("never asked", z, 0, OPEN, 0, -1);
    }

    private static void severalOversInAWeek() {
        GlassValley x = withSilver(999);
        x.order(0, 9, 3, 1);
        x.order(0, 3, 2, 2);
        x.order(0, 4, 1, 4);
        x.work();
        dueWorked("by due weeks, the first", x, 2, DONE, 20, 0);
        dueWorked("by due weeks, the second", x, 1, DONE, 15, 0);
        dueWorked("by due weeks, the third is begun", x, 0, OPEN, 5, 0);
        dueCounts("two of three", x, 1, 2, 0, 6);
        Checks.due("13: silver of two", x.look(20), 14);
        x.work();
        dueWorked("the third", x, 0, DONE, 45, 0);
        Checks.due("13: silver of three", x.look(20), 32);
    }

    private static void looks() {
        for (States state : States.all()) {
            GlassValley x = state.valley();
            for (int what = -3; what < 40; what++) {
                boolean named = what >= 0 && what <= 5 || what >= 10 && what <= 13 || what >= 20 && what <= 23;
                Checks.due("13: look(" + what + ") is named", x.look(what) != -1, named);
            }
            for (int what : new int[] {Integer.MIN_VALUE, Integer.MIN_VALUE + 9, Integer.MIN_VALUE + 10,
                Integer.MIN_VALUE + 19, Integer.MIN_VALUE + 20, Integer.MAX_VALUE - 9, Integer.MAX_VALUE}) {
                Checks.due("13: look(" + what + ")", x.look(what), -1);
            }
            int kinds = x.look(2) + x.look(3) + x.look(4);
            Checks.due("13: all but the dropped", kinds, state == States.BUSY ? 4 : state.came);
        }
    }

    private static void ofs() {
        for (States state : States.all()) {
            GlassValley x = state.valley();
            for (int i = -2; i < 9; i++) {
                boolean such = i >= 0 && i < state.came;
                for (int what = -2; what < 12; what++) {
                    boolean named = such && what >= 0 && what <= 8;
                    if (what != 9) {
                        Checks.due("14: of(" + i + ", " + what + ") is named", x.of(i, what) != -1, named);
                    } else {
                        Checks.due("14: by whom", x.of(i, 9) != -1, such && x.of(i, 8) > 0);
                    }
                }
            }
            for (int any : new int[] {Integer.MIN_VALUE, Integer.MAX_VALUE}) {
                Checks.due("14: of(" + any + ", 0)", x.of(any, 0), -1);
                Checks.due("14: of(0, " + any + ")", x.of(0, any), -1);
                Checks.due("14: of(" + any + ", " + any + ")", x.of(any, any), -1);
            }
        }
    }
}
