/** Promise 16: weeks that are worked as planned. */
public final class WorkTest {
    public static void main(String[] args) {
        upToTheLastWeek();
        nothingIsDoneInTheLastWeek();
        doneAndEarned();
        silverIsUsedAtTheEnd();
        anotherBeginsAnew();
        earlierWorkStaysUntilAnotherWorks();
        severalInAWeek();
        lostBehindItsWeek();
        workedAtAndLost();
        Checks.finish();
    }

    private static void upToTheLastWeek() {
        GlassValley x = new GlassValley();
        for (int w = 1; w <= 51; w++) {
            Checks.due("16: week " + w, x.work(), w);
        }
        Checks.due("16: in week 51", x.work(), -1);
        Checks.due("16: still week 51", x.look(0), 51);
    }

    private static void nothingIsDoneInTheLastWeek() {
        GlassValley x = new GlassValley();
        x.order(0, 1, 51, 7);
        for (int w = 0; w < 51; w++) {
            x.work();
        }
        x.lend(0, 10);
        Checks.due("16: best in week 51", x.best(20), 51);
        Checks.due("16: an order for week 51", x.order(1, 1, 51, 3), 1);
        Checks.due("16: hours of week 51", x.hours(0, 51, 5), true);
        Checks.due("16: in week 51", x.work(), -1);
        Checks.due("16: nothing is earned", x.look(5), 0);
        Checks.due("16: nothing is lost", x.look(4), 0);
        Checks.due("16: nothing is worked", x.of(0, 8), 0);
        Checks.due("16: no silver is used", x.look(10), 10);
    }

    private static void doneAndEarned() {
        GlassValley x = new GlassValley();
        x.lend(0, 100);
        x.order(0, 8, 5, 70);
        x.order(1, 1, 6, 50);
        x.work();
        Checks.due("16: done with the week's last hour", x.of(0, 7), 1);
        Checks.due("16: not begun", x.of(1, 8), 0);
        Checks.due("16: by nobody", x.of(1, 9), -1);
        Checks.due("16: earned", x.look(5), 70);
        x.work();
        Checks.due("16: earned in all", x.look(5), 120);
        Checks.due("16: done", x.look(3), 2);
        Checks.due("16: nothing is left", x.best(0), 0);
    }

    private static void silverIsUsedAtTheEnd() {
        GlassValley x = new GlassValley();
        x.lend(2, 30);
        x.order(0, 9, 5, 70);
        x.work();
        Checks.due("16: silver while it is made", x.look(12), 30);
        Checks.due("16: used while it is made", x.look(22), 0);
        x.work();
        Checks.due("16: silver behind", x.look(12), 12);
        Checks.due("16: used behind", x.look(22), 18);
        x.lend(2, 20);
        x.order(0, 10, 5, 70);
        x.work();
        x.work();
        Checks.due("16: used in all", x.look(22), 38);
        Checks.due("16: bring", x.bring(2), 12);
        Checks.due("16: used in all, silver brought back", x.look(22), 38);
    }

    private static void anotherBeginsAnew() {
        GlassValley x = new GlassValley();
        x.lend(0, 99);
        x.order(0, 20, 9, 1);
        x.work();
        x.bring(0);
        x.lend(1, 99);
        Checks.due("16: all of it for another", x.best(1), 100);
        x.hours(1, 1, 15);
        x.work();
        Checks.due("16: worked by the other", x.of(0, 8), 15);
        Checks.due("16: the other", x.of(0, 9), 1);
        x.lend(0, 99);
        Checks.due("16: the first one's work is gone", x.best(10), 1);
        x.bring(1);
        Checks.due("16: the first one begins anew", x.best(1), 100);
    }

    private static void earlierWorkStaysUntilAnotherWorks() {
        GlassValley x = new GlassValley();
        x.lend(0, 99);
        x.order(0, 20, 9, 1);
        x.work();
        x.bring(0);
        x.lend(1, 99);
        x.hours(1, 1, 0);
        x.work();
        Checks.due("16: the other had no hours", x.of(0, 8), 40);
        Checks.due("16: so the first one's work counts", x.of(0, 9), 0);
        x.lend(0, 99);
        Checks.due("16: less work for the first", x.best(1), 60);
        Checks.due("16: so it is the first one's", x.best(10), 0);
    }

    private static void severalInAWeek() {
        GlassValley x = new GlassValley();
        x.lend(0, 999);
        x.lend(1, 999);
        x.order(0, 4, 4, 5);
        x.order(1, 4, 3, 5);
        x.order(2, 20, 2, 5);
        x.order(3, 20, 5, 5);
        Checks.due("16: all can be", x.best(0), 20);
        Checks.due("16: order 0 to", x.best(10), 0);
        Checks.due("16: order 2 to", x.best(12), 0);
        Checks.due("16: order 3 to", x.best(13), 0);
        Checks.custom(x, "own 3 by 1; own 2 by 0;");
        x.hours(0, 0, 99);
        x.hours(0, 1, 50);
        x.work();
        Checks.due("16: order 2 first", x.of(2, 8), 99);
        Checks.due("16: order 3 by 1", x.of(3, 8), 40);
        x.work();
        Checks.due("16: order 2 is done", x.of(2, 7), 1);
        Checks.due("16: order 1 behind it is done", x.of(1, 7), 1);
        Checks.due("16: order 0 behind that is done", x.of(0, 8), 20);
        Checks.due("16: order 3 goes on", x.of(3, 8), 80);
        Checks.due("16: used by 0", x.look(20), 56);
    }

    private static void lostBehindItsWeek() {
        GlassValley x = new GlassValley();
        x.order(0, 1, 1, 5);
        x.order(0, 1, 2, 5);
        x.work();
        Checks.due("16: due now is not lost", x.of(0, 7), 0);
        x.work();
        Checks.due("16: due behind is lost", x.of(0, 7), 3);
        Checks.due("16: the other is open", x.of(1, 7), 0);
        Checks.due("16: lost", x.look(4), 1);
        x.lend(0, 99);
        Checks.due("16: a lost one is in no way", x.best(10), -1);
        Checks.due("16: the open one is", x.best(11), 0);
    }

    private static void workedAtAndLost() {
        GlassValley x = new GlassValley();
        x.lend(0, 99);
        x.order(0, 10, 1, 5);
        x.work();
        x.hours(0, 1, 9);
        x.work();
        Checks.due("16: lost", x.of(0, 7), 3);
        Checks.due("16: what was worked at it", x.of(0, 8), 40);
        Checks.due("16: by", x.of(0, 9), 0);
        Checks.due("16: no silver is used", x.look(10), 99);
        x.pattern(0, 1, 1, 1);
        Checks.due("16: a new pattern is not for a lost one", x.of(0, 8), 40);
    }
}
