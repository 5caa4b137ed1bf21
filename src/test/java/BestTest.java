/** Promise 15: the best way to give orders to families. */
public final class BestTest {
    public static void main(String[] args) {
        whats();
        dueWeeks();
        rowOfWork();
        weeksWithoutHours();
        barsAndLoans();
        aBarThatWorkAheadLeadsPast();
        silverTogether();
        mostPricesFirst();
        leastWorkThen();
        firstFamiliesLast();
        workLeftCounts();
        lastWeek();
        Checks.finish();
    }

    private static void dueWay(String about, GlassValley x, int... families) {
        for (int i = 0; i < families.length; i++) {
            Checks.due("15: " + about + ", family of " + i, x.best(10 + i), families[i]);
        }
    }

    private static GlassValley withSilver(int... grams) {
        GlassValley x = new GlassValley();
        for (int f = 0; f < grams.length; f++) {
            x.lend(f, grams[f]);
        }
        return x;
    }

    private static void whats() {
        GlassValley x = withSilver(999);
        x.order(0, 1, 0, 7);
        x.order(0, 1, 0, 7);
        x.drop(0);
        Checks.due("15: best(0)", x.best(0), 7);
        Checks.due("15: best(1)", x.best(1), 5);
        Checks.due("15: a dropped one", x.best(10), -1);
        Checks.due("15: a dropped one's week", x.best(20), -1);
        Checks.due("15: best(11)", x.best(11), 0);
        Checks.due("15: best(21)", x.best(21), 0);
        for (int what : new int[] {-1, 2, 9, 12, 16, 17, 19, 22, 26, 27, 30,
            Integer.MIN_VALUE, Integer.MIN_VALUE + 15, Integer.MAX_VALUE}) {
            Checks.due("15: best(" + what + ")", x.best(what), -1);
        }
    }

    private static void dueWeeks() {
        GlassValley x = withSilver(999);
        x.order(0, 9, 1, 7);
        Checks.due("15: 45 hours are over in week 1", x.best(20), 1);
        x.order(0, 9, 0, 8);
        Checks.due("15: 45 hours are not over in week 0", x.best(11), -1);
        x.hours(0, 0, 45);
        Checks.due("15: the last hour of week 0", x.best(21), 0);
        Checks.due("15: behind it, the last hour is beyond week 1", x.best(0), 8);
        x.hours(0, 1, 45);
        Checks.due("15: begun where hours are left", x.best(20), 1);
    }

    private static void rowOfWork() {
        GlassValley x = withSilver(999);
        x.order(0, 8, 5, 1);
        x.order(0, 8, 3, 1);
        x.order(0, 8, 3, 1);
        x.order(0, 8, 4, 1);
        Checks.due("15: by due weeks, the last", x.best(20), 3);
        Checks.due("15: by due weeks, then by numbers", x.best(21), 0);
        Checks.due("15: the greater number behind", x.best(22), 1);
        Checks.due("15: by due weeks, the third", x.best(23), 2);
    }

    private static void weeksWithoutHours() {
        GlassValley x = withSilver(999);
        x.hours(0, 0, 0);
        x.hours(0, 2, 0);
        x.order(0, 10, 3, 1);
        Checks.due("15: over a week without hours", x.best(20), 3);
        Checks.custom(x, "bar 0 from 0 to 0;");
        Checks.due("15: not begun in a week without hours", x.best(20), 3);
        Checks.custom(x, "bar 0 from 2 to 2;");
        Checks.due("15: barred in a week without hours between", x.best(20), -1);
        for (int w = 0; w < 52; w++) {
            x.hours(0, w, 0);
        }
        Checks.custom(x, "");
        Checks.due("15: no hours at all", x.best(0), 0);
    }

    private static void barsAndLoans() {
        GlassValley x = withSilver(999, 999);
        x.order(0, 10, 9, 1);
        Checks.custom(x, "own 0 by 3; lend 0 to 1 until 1;");
        dueWay("lent to the week in which it is over", x, 1);
        Checks.custom(x, "own 0 by 3; lend 0 to 1 until 0;");
        dueWay("lent for the first week alone", x, -1);
        Checks.custom(x, "own 0 by 1; bar 0 from 2 to 51;");
        dueWay("barred behind", x, 1);
        Checks.custom(x, "own 0 by 1; bar 0 from 1 to 1;");
        dueWay("barred while it is made: it does not wait", x, -1);
        Checks.custom(x, "own 0 by 1; bar 0 from 0 to 0;");
        dueWay("barred as it is begun: it does not wait", x, -1);
    }

    private static void aBarThatWorkAheadLeadsPast() {
        GlassValley x = withSilver(999);
        Checks.custom(x, "bar 1 from 0 to 0;");
        x.order(1, 1, 9, 50);
        Checks.due("15: barred now", x.best(0), 0);
        x.order(0, 8, 0, 1);
        Checks.due("15: another order fills the barred week", x.best(0), 51);
        Checks.due("15: then it is made", x.best(20), 1);
        x.hours(0, 0, 41);
        Checks.due("15: an hour left begins it in the barred week", x.best(0), 1);
    }

    private static void silverTogether() {
        GlassValley x = withSilver(10);
        x.order(0, 3, 9, 10);
        x.order(0, 2, 9, 9);
        Checks.due("15: silver for both", x.best(0), 19);
        x.order(0, 1, 9, 2);
        dueWay("silver for two of three", x, 0, 0, -1);
        x.pattern(0, 5, 0, 0);
        dueWay("no silver needed", x, 0, 0, 0);
        x.bring(0);
        dueWay("nor had", x, 0, 0, 0);
    }

    private static void mostPricesFirst() {
        GlassValley x = withSilver(999);
        x.order(0, 8, 0, 10);
        x.order(1, 4, 0, 6);
        x.order(2, 4, 0, 6);
        dueWay("two smaller earn more", x, -1, 0, 0);
        x.order(3, 8, 0, 13);
        dueWay("one greater earns more", x, -1, -1, -1, 0);
        Checks.due("15: its prices", x.best(0), 13);
    }

    private static void leastWorkThen() {
        GlassValley x = withSilver(999);
        x.order(0, 8, 0, 10);
        x.order(1, 7, 0, 10);
        dueWay("the same price with less work", x, -1, 0);
        Checks.due("15: its work", x.best(1), 35);
        x.pattern(1, 5, 2, 1);
        dueWay("the same work: the first", x, 0, -1);
    }

    private static void firstFamiliesLast() {
        GlassValley x = withSilver(999, 999, 999, 999);
        for (int i = 0; i < 7; i++) {
            x.order(i % 6, 4, 0, 9);
        }
        dueWay("two to a family", x, 0, 0, 1, 1, 2, 2, 3);
        x.bring(0);
        dueWay("none last", x, 1, 1, 2, 2, 3, 3, -1);
        Checks.custom(x, "own 0 by 3;");
        dueWay("orders 0 and 6 are for 3 alone", x, 3, 1, 1, 2, 2, 3, -1);
    }

    private static void workLeftCounts() {
        GlassValley x = withSilver(30);
        x.order(0, 12, 9, 5);
        x.work();
        x.lend(1, 999);
        x.order(1, 12, 1, 5);
        x.hours(0, 1, 60);
        x.hours(1, 1, 60);
        dueWay("begun by 0", x, 0, 1);
        Checks.due("15: work that is left", x.best(1), 20 + 60);
        x.hours(1, 1, 59);
        dueWay("1 could take it anew", x, 1, 0);
        Checks.due("15: work anew", x.best(1), 60 + 60);
    }

    private static void lastWeek() {
        GlassValley x = withSilver(9999);
        x.pattern(0, 30, 20, 90);
        x.order(0, 6, 51, 1);
        Checks.due("15: 1800 hours in 45 weeks", x.best(20), 44);
        x.order(0, 1, 51, 1);
        Checks.due("15: 300 more are beyond the last", x.best(0), 1);
        dueWay("the lesser work", x, -1, 0);
        x.hours(0, 51, 59);
        Checks.due("15: 2099 hours are one short", x.best(0), 1);
        x.hours(0, 51, 60);
        Checks.due("15: 2100 hours are enough", x.best(0), 2);
        Checks.due("15: over in the last week", x.best(21), 51);
    }
}
