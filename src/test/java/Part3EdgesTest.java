/** Part 3 of the document's terms, and promise 15 by it: what a way can be, and which is best. */
public final class Part3EdgesTest {
    public static void main(String[] args) {
        noOrders();
        whats();
        openOrdersAlone();
        noSilverAndNoHours();
        overInItsDueWeek();
        theLastWeek();
        allHoursOfAllWeeks();
        byDueWeeksThenByNumbers();
        begunBehindTheOneAhead();
        rightsFromBegunToOver();
        lentUpToTheWeekInWhichItIsOver();
        weeksWithoutHours();
        silverForAllTogether();
        silverOfEachFamilyAlone();
        mostPrices();
        leastWork();
        theFirstByFamilies();
        sevenOrders();
        sevenOrdersForNobody();
        workThatIsLeft();
        aWayOfNow();
        Checks.finish();
    }

    private static GlassValley withSilver(int... grams) {
        GlassValley x = new GlassValley();
        for (int f = 0; f < grams.length; f++) {
            x.lend(f, grams[f]);
        }
        return x;
    }

    private static void dueBest(String about, GlassValley x, int prices, int work) {
        Checks.due("15: " + about + ", prices", x.best(0), prices);
        Checks.due("15: " + about + ", work", x.best(1), work);
    }

    private static void dueFamilies(String about, GlassValley x, int... families) {
        for (int i = 0; i < families.length; i++) {
            Checks.due("15: " + about + ", family of " + i, x.best(10 + i), families[i]);
            Checks.due("15: " + about + ", a week of " + i, x.best(20 + i) != -1, families[i] != -1);
        }
    }

    private static void dueWeeks(String about, GlassValley x, int... weeks) {
        for (int i = 0; i < weeks.length; i++) {
            Checks.due("15: " + about + ", week of " + i, x.best(20 + i), weeks[i]);
        }
    }

    private static void noOrders() {
        GlassValley x = withSilver(9999, 9999, 9999, 9999);
        dueBest("no orders", x, 0, 0);
        dueFamilies("no orders", x, -1, -1, -1, -1, -1, -1, -1);
        x.work();
        dueBest("no orders a week later", x, 0, 0);
    }

    private static void whats() {
        GlassValley x = withSilver(999);
        for (int i = 0; i < 7; i++) {
            x.order(0, 1, 0, 1);
        }
        for (int what = -3; what < 40; what++) {
            boolean named = what == 0 || what == 1 || what >= 10 && what <= 16 || what >= 20 && what <= 26;
            Checks.due("15: best(" + what + ") is named", x.best(what) != -1, named);
        }
        for (int what : new int[] {Integer.MIN_VALUE, Integer.MIN_VALUE + 9, Integer.MIN_VALUE + 10,
            Integer.MIN_VALUE + 19, Integer.MIN_VALUE + 20, Integer.MAX_VALUE - 9, Integer.MAX_VALUE}) {
            Checks.due("15: best(" + what + ")", x.best(what), -1);
        }
    }

    private static void openOrdersAlone() {
        GlassValley x = withSilver(99);
        x.order(0, 1, 0, 1);
        x.order(0, 20, 0, 2);
        x.order(0, 1, 5, 4);
        x.order(0, 8, 5, 8);
        dueFamilies("open ones", x, 0, -1, 0, 0);
        x.drop(2);
        dueBest("without the dropped one", x, 9, 45);
        dueFamilies("without the dropped one", x, 0, -1, -1, 0);
        x.work();
        dueBest("without the done and the lost one", x, 8, 5);
        dueFamilies("without the done and the lost one", x, -1, -1, -1, 0);
        x.work();
        dueBest("none is open", x, 0, 0);
        dueFamilies("none is open", x, -1, -1, -1, -1);
    }

    private static void noSilverAndNoHours() {
        GlassValley x = new GlassValley();
        x.order(0, 1, 51, 5);
        dueBest("nobody has silver", x, 0, 0);
        dueFamilies("nobody has silver", x, -1);
        x.lend(2, 1);
        dueBest("a gram too little", x, 0, 0);
        x.lend(2, 1);
        dueFamilies("just enough", x, 2);
        for (int w = 0; w <= 51; w++) {
            x.hours(2, w, 0);
        }
        dueBest("a family without hours", x, 0, 0);
        x.hours(2, 51, 4);
        dueBest("an hour too few", x, 0, 0);
        x.hours(2, 51, 5);
        dueBest("hours in the last week alone", x, 5, 5);
        dueWeeks("hours in the last week alone", x, 51);
    }

    private static void overInItsDueWeek() {
        for (int due = 0; due <= 51; due++) {
            GlassValley x = withSilver(99, 99);
            for (int w = 0; w < due; w++) {
                x.hours(0, w, 0);
                x.hours(1, w, 0);
            }
            x.order(0, 8, due, 5);
            dueWeeks("the week's last hour", x, due);
            dueFamilies("the week's last hour", x, 0);
            x.hours(0, due, 39);
            dueFamilies("an hour too few", x, 1);
            x.hours(1, due, 39);
            dueFamilies("an hour too few for both", x, -1);
            dueBest("an hour too few for both", x, 0, 0);
        }
    }

    private static void theLastWeek() {
        GlassValley x = withSilver(999);
        x.pattern(0, 10, 1, 90);
        x.order(0, 20, 51, 5);
        x.order(1, 16, 51, 3);
        dueBest("2080 hours in 52 weeks", x, 8, 2080);
        dueWeeks("2080 hours in 52 weeks", x, 49, 51);
        x.hours(0, 51, 39);
        dueBest("one of them is missing", x, 5, 2000);
        x.hours(0, 0, 41);
        dueBest("one more at first", x, 8, 2080);
        x.order(2, 1, 51, 9);
        dueFamilies("all that is left is taken", x, 0, -1, 0);
        GlassValley y = States.LAST.valley();
        y.order(5, 7, 51, 2);
        dueBest("in week 51", y, 9, 40);
        dueWeeks("in week 51", y, 51, -1, -1, 51);
        y.hours(0, 51, 39);
        y.bring(2);
        dueBest("an hour too few in week 51", y, 7, 5);
    }

    private static void allHoursOfAllWeeks() {
        GlassValley x = withSilver(999);
        for (int w = 0; w <= 51; w++) {
            x.hours(0, w, 99);
        }
        x.pattern(0, 25, 1, 90);
        x.pattern(2, 3, 1, 0);
        x.order(0, 20, 51, 9999);
        x.order(1, 20, 51, 9999);
        x.order(2, 16, 51, 9999);
        dueBest("5148 hours", x, 29997, 5148);
        dueWeeks("5148 hours", x, 50, 51, 51);
        x.hours(0, 51, 98);
        dueBest("5147 hours", x, 19998, 148);
        x.pattern(0, 30, 1, 90);
        x.hours(0, 51, 99);
        dueFamilies("6000 hours are too many", x, -1, 0, 0);
    }

    private static void byDueWeeksThenByNumbers() {
        GlassValley x = withSilver(999);
        int[] due = {6, 5, 6, 4, 4, 3, 51};
        for (int i = 0; i < 7; i++) {
            x.order(0, 8, due[i], i == 2 ? 1 : 2);
        }
        dueBest("seven weeks", x, 13, 280);
        dueWeeks("by due weeks, then by numbers", x, 4, 3, 5, 1, 2, 0, 6);
        x.hours(0, 0, 39);
        dueWeeks("an hour later, each ends a week later", x, 5, 4, 6, 2, 3, 1, 7);
        x.hours(0, 1, 39);
        x.hours(0, 6, 2);
        dueWeeks("the last hour of order 2 is the last of its due week", x, 5, 4, 6, 2, 3, 1, 7);
        x.hours(0, 6, 1);
        dueWeeks("an hour too few: it is left out", x, 5, 4, -1, 2, 3, 1, 7);
    }

    private static void begunBehindTheOneAhead() {
        GlassValley x = withSilver(999);
        x.order(0, 8, 0, 1);
        x.order(1, 1, 9, 2);
        Checks.custom(x, "bar 1 from 0 to 0;");
        dueWeeks("no hour is left: begun in the next week", x, 0, 1);
        x.hours(0, 0, 41);
        dueFamilies("an hour is left: begun in the barred week", x, 0, -1);
    }

    private static void rightsFromBegunToOver() {
        // Order 0 fills the weeks 0 and 1; order 1 is begun in 2 and over in 4.
        for (int w = 0; w <= 6; w++) {
            GlassValley x = withSilver(999);
            x.pattern(0, 10, 2, 0);
            x.order(0, 8, 1, 9);
            x.order(1, 20, 9, 5);
            Checks.custom(x, "bar 1 from " + w + " to " + w + ";");
            boolean made = w < 2 || w > 4;
            dueFamilies("barred in " + w, x, 0, made ? 0 : -1);
            dueWeeks("barred in " + w, x, 1, made ? 4 : -1);
        }
        // Alone it is begun now.
        for (int w = 0; w <= 3; w++) {
            GlassValley x = withSilver(999);
            x.order(1, 20, 9, 5);
            Checks.custom(x, "bar 1 from " + w + " to 51;");
            dueFamilies("barred from " + w + " on", x, w <= 2 ? -1 : 0);
        }
    }

    private static void lentUpToTheWeekInWhichItIsOver() {
        for (int until = 0; until <= 51; until++) {
            GlassValley x = withSilver(0, 999);
            x.order(0, 20, 9, 5);
            Checks.custom(x, "own 0 by 3; lend 0 to 1 until " + until + ";");
            dueFamilies("lent until " + until, x, until >= 2 ? 1 : -1);
        }
        GlassValley x = withSilver(999, 999, 999, 999);
        x.order(0, 1, 0, 5);
        for (int f = 0; f < 4; f++) {
            Checks.custom(x, "own 0 by " + f + ";");
            dueFamilies("its owner alone", x, f);
        }
    }

    private static void weeksWithoutHours() {
        // No hours in the weeks 0, 2 and 4: begun in 1, over in 3.
        for (int w = 0; w <= 4; w++) {
            GlassValley x = withSilver(999);
            x.hours(0, 0, 0);
            x.hours(0, 2, 0);
            x.hours(0, 4, 0);
            x.order(0, 16, 4, 5);
            dueWeeks("over in", x, 3);
            Checks.custom(x, "bar 0 from " + w + " to " + w + ";");
            dueFamilies("barred in " + w, x, w == 0 || w == 4 ? 0 : -1);
        }
    }

    private static void silverForAllTogether() {
        GlassValley x = withSilver(13);
        x.order(0, 1, 1, 10);
        x.order(0, 2, 20, 9);
        x.order(0, 4, 51, 8);
        dueFamilies("a gram too little for all", x, 0, 0, -1);
        x.lend(0, 1);
        dueFamilies("just enough for all", x, 0, 0, 0);
        x.pattern(0, 5, 20, 0);
        dueBest("a gross takes more than it has", x, 0, 0);
        x.lend(0, 6);
        dueFamilies("enough for one", x, 0, -1, -1);
        x.lend(0, 119);
        dueFamilies("139 of 140 grams", x, 0, 0, -1);
        x.lend(0, 1);
        dueFamilies("140 grams", x, 0, 0, 0);
        GlassValley y = withSilver(3999, 0, 0, 3999);
        y.hours(0, 0, 99);
        y.pattern(0, 1, 20, 90);
        y.order(0, 20, 9, 1);
        dueBest("4000 grams are missing one", y, 0, 0);
        y.lend(3, 1);
        dueFamilies("4000 grams", y, 3);
    }

    private static void silverOfEachFamilyAlone() {
        GlassValley x = withSilver(1, 1, 1, 1);
        x.order(0, 1, 0, 5);
        dueBest("silver of several does not join", x, 0, 0);
        x.bring(3);
        x.lend(2, 1);
        dueFamilies("one has enough", x, 2);
        x.bring(2);
        dueBest("which is brought back", x, 0, 0);
    }

    private static void mostPrices() {
        GlassValley x = withSilver(999);
        x.order(0, 8, 0, 9999);
        x.order(1, 1, 0, 4999);
        x.order(2, 1, 0, 4999);
        dueFamilies("one more in all, for much more work", x, 0, -1, -1);
        x.order(3, 1, 0, 1);
        dueFamilies("as much in all, for less work", x, -1, 0, 0, 0);
        x.order(4, 1, 0, 1);
        dueBest("one more by a small one", x, 10000, 20);
    }

    private static void leastWork() {
        GlassValley x = withSilver(999);
        x.pattern(0, 4, 2, 0);
        x.pattern(1, 13, 2, 0);
        x.order(0, 10, 0, 7);
        x.order(1, 3, 0, 7);
        dueFamilies("39 hours are less than 40", x, -1, 0);
        dueBest("39 hours are less than 40", x, 7, 39);
        x.pattern(0, 3, 2, 0);
        x.hours(0, 0, 39);
        dueFamilies("30 hours are less than 39", x, 0, -1);
        x.pattern(1, 10, 2, 0);
        dueFamilies("as many: the first", x, 0, -1);
    }

    private static void theFirstByFamilies() {
        GlassValley x = withSilver(8, 8);
        x.order(0, 4, 9, 5);
        x.order(0, 4, 9, 5);
        dueFamilies("the lesser for order 0", x, 0, 1);
        x.order(0, 4, 9, 5);
        dueFamilies("none last", x, 0, 1, -1);
        x.bring(0);
        dueFamilies("a greater one ahead of none", x, 1, -1, -1);
        x.lend(3, 999);
        dueFamilies("order 0 counts ahead of the others", x, 1, 3, 3);
        Checks.custom(x, "own 0 by 3;");
        dueFamilies("the greatest alone", x, 3, 3, 3);
        // Order 1 is due first: still order 0 has the first word.
        GlassValley y = withSilver(99, 99);
        y.order(0, 8, 1, 5);
        y.order(0, 8, 0, 5);
        y.order(0, 8, 1, 5);
        dueFamilies("by numbers, not by due weeks", y, 0, 0, 1);
        dueWeeks("by due weeks at work", y, 1, 0, 0);
    }

    private static void sevenOrders() {
        GlassValley x = withSilver(9999, 9999, 9999, 9999);
        for (int i = 0; i < 7; i++) {
            x.order(i % 6, 8, 51, 9999);
        }
        dueBest("seven by one family", x, 69993, 280);
        dueFamilies("seven by one family", x, 0, 0, 0, 0, 0, 0, 0);
        dueWeeks("seven by one family", x, 0, 1, 2, 3, 4, 5, 6);
        GlassValley y = withSilver(9999, 9999, 9999, 9999);
        for (int i = 0; i < 7; i++) {
            y.order(i % 6, 8, i / 4, 9999);
        }
        dueBest("seven by four families", y, 69993, 280);
        dueFamilies("seven by four families", y, 0, 1, 2, 3, 0, 1, 2);
        dueWeeks("seven by four families", y, 0, 0, 0, 0, 1, 1, 1);
        GlassValley z = withSilver(9999, 9999, 9999, 9999);
        for (int i = 0; i < 7; i++) {
            z.order(i % 6, 8, 0, 1 + i);
        }
        dueBest("four of seven", z, 22, 160);
        dueFamilies("four of seven", z, -1, -1, -1, 0, 1, 2, 3);
    }

    private static void sevenOrdersForNobody() {
        GlassValley x = withSilver(9999, 9999, 9999, 9999);
        for (int i = 0; i < 7; i++) {
            x.order(i % 6, 9, 0, 9999);
        }
        dueBest("45 hours each in a week of 40", x, 0, 0);
        dueFamilies("45 hours each in a week of 40", x, -1, -1, -1, -1, -1, -1, -1);
    }

    private static void workThatIsLeft() {
        GlassValley x = withSilver(99, 99);
        x.order(0, 16, 1, 5);
        x.work();
        dueBest("40 hours are left of 80", x, 5, 40);
        dueWeeks("just enough time for who began", x, 1);
        x.hours(0, 1, 39);
        dueFamilies("nobody can in time", x, -1);
        x.hours(1, 1, 79);
        dueFamilies("all of it takes another too long", x, -1);
        x.hours(1, 1, 80);
        dueFamilies("another begins anew", x, 1);
        dueBest("another begins anew", x, 5, 80);
        x.hours(0, 1, 40);
        dueFamilies("less work for who began", x, 0);
        Checks.due("14: the whole work", x.of(0, 5), 80);
        // What is left is begun anew by right: weeks behind don't count.
        Checks.custom(x, "bar 0 from 0 to 0;");
        dueFamilies("barred in a week behind", x, 0);
        Checks.custom(x, "bar 0 from 1 to 1;");
        dueFamilies("barred now", x, -1);
    }

    /** Each call that tells something is in the way that is asked for behind it. */
    private static void aWayOfNow() {
        GlassValley x = new GlassValley();
        dueBest("nothing", x, 0, 0);
        x.order(0, 8, 1, 5);
        dueBest("order", x, 0, 0);
        x.lend(0, 16);
        dueBest("lend", x, 5, 40);
        dueWeeks("lend", x, 0);
        x.hours(0, 0, 39);
        dueWeeks("hours", x, 1);
        x.pattern(0, 1, 2, 0);
        dueBest("pattern", x, 5, 8);
        Checks.custom(x, "own 0 by 1;");
        dueBest("custom", x, 0, 0);
        Checks.custom(x, "own 0 by 0; ;");
        dueBest("a custom with a fault", x, 0, 0);
        x.custom();
        dueBest("an empty custom", x, 5, 8);
        x.bring(0);
        dueBest("bring", x, 0, 0);
        x.lend(1, 16);
        dueFamilies("another's lend", x, 1);
        x.drop(0);
        dueBest("drop", x, 0, 0);
    }
}
