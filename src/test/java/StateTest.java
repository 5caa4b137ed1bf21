/** Promises 1 to 7, 13 and 14: what is told to the valley, and what it tells of itself. */
public final class StateTest {
    public static void main(String[] args) {
        promise1NewObject();
        promise2Hours();
        promise3Pattern();
        promise3OpenOrdersFollow();
        promise4Lend();
        promise5Bring();
        promise6Order();
        promise6Made();
        promise7Drop();
        promise13Look();
        promise14Of();
        Checks.finish();
    }

    private static void promise1NewObject() {
        GlassValley x = new GlassValley();
        for (int what = 0; what <= 5; what++) {
            Checks.due("1: look(" + what + ")", x.look(what), 0);
        }
        for (int f = 0; f < 4; f++) {
            Checks.due("1: silver of " + f, x.look(10 + f), 0);
            Checks.due("1: used by " + f, x.look(20 + f), 0);
        }
        Checks.due("1: of(0, 0)", x.of(0, 0), -1);
        Checks.due("1: fault(0)", x.fault(0), 0);
        Checks.due("1: fault(1)", x.fault(1), -1);
        Checks.due("1: best(0)", x.best(0), 0);
        Checks.due("1: best(1)", x.best(1), 0);
        Checks.due("1: best(10)", x.best(10), -1);
        for (int p = 0; p < 6; p++) {
            x.order(p, 1, 0, 1);
            Checks.due("1: hours of a gross " + p, x.of(p, 5), 5);
            Checks.due("1: silver of a gross " + p, x.of(p, 6), 2);
            Checks.due("1: made of a gross " + p, x.of(p, 4), 1);
        }
        Checks.due("1: another object has no orders", new GlassValley().look(1), 0);
    }

    private static void promise2Hours() {
        GlassValley x = new GlassValley();
        Checks.due("2: hours(0, 0, 0)", x.hours(0, 0, 0), true);
        Checks.due("2: hours(3, 51, 99)", x.hours(3, 51, 99), true);
        Checks.due("2: hours(4, 0, 1)", x.hours(4, 0, 1), false);
        Checks.due("2: hours(-1, 0, 1)", x.hours(-1, 0, 1), false);
        Checks.due("2: hours(0, 52, 1)", x.hours(0, 52, 1), false);
        Checks.due("2: hours(0, -1, 1)", x.hours(0, -1, 1), false);
        Checks.due("2: hours(0, 0, 100)", x.hours(0, 0, 100), false);
        Checks.due("2: hours(0, 0, -1)", x.hours(0, 0, -1), false);
        Checks.due("2: hours(min, max, min)",
            x.hours(Integer.MIN_VALUE, Integer.MAX_VALUE, Integer.MIN_VALUE), false);
        x.lend(0, 99);
        x.order(0, 8, 1, 1);
        Checks.due("2: no hours in week 0, 40 in week 1", x.best(20), 1);
        x.hours(0, 0, 100);
        Checks.due("2: what can't be changes nothing", x.best(20), 1);
        x.hours(0, 0, 40);
        Checks.due("2: 40 hours in week 0", x.best(20), 0);
        x.work();
        Checks.due("2: a week behind", x.hours(0, 0, 1), false);
        Checks.due("2: the week now", x.hours(0, 1, 1), true);
    }

    private static void promise3Pattern() {
        GlassValley x = new GlassValley();
        Checks.due("3: pattern(0, 1, 0, 0)", x.pattern(0, 1, 0, 0), true);
        Checks.due("3: pattern(5, 30, 20, 90)", x.pattern(5, 30, 20, 90), true);
        Checks.due("3: pattern(6, 1, 1, 1)", x.pattern(6, 1, 1, 1), false);
        Checks.due("3: pattern(-1, 1, 1, 1)", x.pattern(-1, 1, 1, 1), false);
        Checks.due("3: pattern(0, 0, 1, 1)", x.pattern(0, 0, 1, 1), false);
        Checks.due("3: pattern(0, 31, 1, 1)", x.pattern(0, 31, 1, 1), false);
        Checks.due("3: pattern(0, 1, -1, 1)", x.pattern(0, 1, -1, 1), false);
        Checks.due("3: pattern(0, 1, 21, 1)", x.pattern(0, 1, 21, 1), false);
        Checks.due("3: pattern(0, 1, 1, -1)", x.pattern(0, 1, 1, -1), false);
        Checks.due("3: pattern(0, 1, 1, 91)", x.pattern(0, 1, 1, 91), false);
        x.order(0, 3, 0, 1);
        Checks.due("3: what can't be changes nothing, hours", x.of(0, 5), 3);
        Checks.due("3: what can't be changes nothing, silver", x.of(0, 6), 0);
        x.order(5, 20, 0, 1);
        Checks.due("3: most hours", x.of(1, 5), 6000);
        Checks.due("3: most silver", x.of(1, 6), 4000);
    }

    private static void promise3OpenOrdersFollow() {
        GlassValley x = new GlassValley();
        x.lend(0, 999);
        x.order(0, 4, 0, 1);
        x.order(0, 10, 9, 1);
        x.order(1, 10, 9, 1);
        x.order(0, 5, 9, 1);
        x.drop(3);
        x.work();
        Checks.due("3: order 0 is done", x.of(0, 7), 1);
        Checks.due("3: order 1 was worked at", x.of(1, 8), 20);
        x.pattern(0, 7, 3, 50);
        Checks.due("3: a done order keeps its work", x.of(0, 5), 20);
        Checks.due("3: a done order keeps what was worked", x.of(0, 8), 20);
        Checks.due("3: a dropped order keeps its work", x.of(3, 5), 25);
        Checks.due("3: an open one is made anew", x.of(1, 4), 20);
        Checks.due("3: with its work", x.of(1, 5), 140);
        Checks.due("3: with its silver", x.of(1, 6), 60);
        Checks.due("3: what was worked is lost", x.of(1, 8), 0);
        Checks.due("3: nobody worked at it", x.of(1, 9), -1);
        Checks.due("3: another pattern's order stays", x.of(2, 5), 50);
        x.work();
        Checks.due("3: order 1 was worked at again", x.of(1, 8), 40);
        x.pattern(1, 1, 1, 1);
        Checks.due("3: another pattern takes nothing away", x.of(1, 8), 40);
        x.pattern(0, 7, 3, 91);
        Checks.due("3: nor does what can't be", x.of(1, 8), 40);
        x.pattern(0, 7, 3, 50);
        Checks.due("3: the same pattern told again does", x.of(1, 8), 0);
    }

    private static void promise4Lend() {
        GlassValley x = new GlassValley();
        Checks.due("4: lend(0, 1)", x.lend(0, 1), true);
        Checks.due("4: lend(0, 9999)", x.lend(0, 9999), true);
        Checks.due("4: lend(0, 10000)", x.lend(0, 10000), false);
        Checks.due("4: lend(0, 0)", x.lend(0, 0), false);
        Checks.due("4: lend(0, -1)", x.lend(0, -1), false);
        Checks.due("4: lend(-1, 1)", x.lend(-1, 1), false);
        Checks.due("4: lend(4, 1)", x.lend(4, 1), false);
        Checks.due("4: lend(0, max)", x.lend(0, Integer.MAX_VALUE), false);
        Checks.due("4: silver", x.look(10), 10000);
        x.order(0, 1, 0, 5);
        x.bring(0);
        Checks.due("4: best without silver", x.best(0), 0);
        x.lend(0, 2);
        Checks.due("4: best with it", x.best(0), 5);
        for (int n = 0; n < 9; n++) {
            Checks.due("4: lend 9999 more", x.lend(1, 9999), true);
        }
        Checks.due("4: lend(1, 9999), the tenth", x.lend(1, 9999), true);
        Checks.due("4: silver 99990", x.look(11), 99990);
        Checks.due("4: beyond 99999", x.lend(1, 10), false);
        Checks.due("4: up to 99999", x.lend(1, 9), true);
        Checks.due("4: silver 99999", x.look(11), 99999);
        Checks.due("4: one gram beyond", x.lend(1, 1), false);
    }

    private static void promise5Bring() {
        GlassValley x = new GlassValley();
        x.lend(3, 77);
        Checks.due("5: bring(3)", x.bring(3), 77);
        Checks.due("5: bring(3) again", x.bring(3), 0);
        Checks.due("5: silver", x.look(13), 0);
        Checks.due("5: bring(0)", x.bring(0), 0);
        Checks.due("5: bring(4)", x.bring(4), -1);
        Checks.due("5: bring(-1)", x.bring(-1), -1);
        x.lend(0, 10);
        x.order(0, 2, 0, 5);
        Checks.due("5: with silver", x.best(0), 5);
        x.bring(0);
        Checks.due("5: without silver", x.best(0), 0);
        Checks.due("5: bringing back is no use", x.look(20), 0);
    }

    private static void promise6Order() {
        GlassValley x = new GlassValley();
        Checks.due("6: order(6, ..)", x.order(6, 1, 0, 1), -1);
        Checks.due("6: order(-1, ..)", x.order(-1, 1, 0, 1), -1);
        Checks.due("6: no gross", x.order(0, 0, 0, 1), -1);
        Checks.due("6: 21 gross", x.order(0, 21, 0, 1), -1);
        Checks.due("6: week -1", x.order(0, 1, -1, 1), -1);
        Checks.due("6: week 52", x.order(0, 1, 52, 1), -1);
        Checks.due("6: price 0", x.order(0, 1, 0, 0), -1);
        Checks.due("6: price 10000", x.order(0, 1, 0, 10000), -1);
        Checks.due("6: nothing came", x.look(1), 0);
        Checks.due("6: order(0, 1, 0, 1)", x.order(0, 1, 0, 1), 0);
        Checks.due("6: order(5, 20, 51, 9999)", x.order(5, 20, 51, 9999), 1);
        x.work();
        Checks.due("6: due in a week behind", x.order(0, 1, 0, 1), -1);
        Checks.due("6: due now", x.order(0, 1, 1, 1), 2);
        for (int n = 3; n < 7; n++) {
            Checks.due("6: order " + n, x.order(0, 1, 1, 1), n);
        }
        Checks.due("6: there are 7", x.order(0, 1, 1, 1), -1);
        x.drop(6);
        Checks.due("6: a dropped one makes no room", x.order(0, 1, 1, 1), -1);
        Checks.due("6: 7 came", x.look(1), 7);
        Checks.due("6: a pattern with 7 orders", x.pattern(0, 6, 2, 0), true);
        Checks.due("6: the last but one of 7", x.of(5, 5), 6);
        Checks.due("6: a week with 7 orders", x.work(), 2);
        Checks.due("6: six of 7 were open, one is", x.look(2), 1);
    }

    private static void promise6Made() {
        for (int breaks = 0; breaks <= 90; breaks++) {
            GlassValley x = new GlassValley();
            x.pattern(0, 1, 1, breaks);
            for (int n = 0; n < 7; n++) {
                int gross = 1 + (breaks * 7 + n) % 20;
                x.order(0, gross, 0, 1);
                int made = 0;
                while (made - Math.ceil(made * breaks / 100.0) < gross) {
                    made++;
                }
                Checks.due("6: made of " + gross + " at " + breaks, x.of(n, 4), made);
            }
        }
    }

    private static void promise7Drop() {
        GlassValley x = new GlassValley();
        Checks.due("7: drop(0), none came", x.drop(0), false);
        x.lend(0, 99);
        x.order(0, 1, 0, 7);
        x.order(0, 1, 0, 8);
        x.order(0, 20, 0, 9);
        Checks.due("7: drop(-1)", x.drop(-1), false);
        Checks.due("7: drop(3)", x.drop(3), false);
        Checks.due("7: best with it", x.best(0), 15);
        Checks.due("7: drop(0)", x.drop(0), true);
        Checks.due("7: drop(0) again", x.drop(0), false);
        Checks.due("7: best without it", x.best(0), 8);
        Checks.due("7: of(0, 7)", x.of(0, 7), 2);
        Checks.due("7: look(2)", x.look(2), 2);
        x.work();
        Checks.due("7: a dropped one is not lost", x.of(0, 7), 2);
        Checks.due("7: a done one", x.drop(1), false);
        Checks.due("7: a lost one", x.drop(2), false);
        Checks.due("7: it stays done", x.of(1, 7), 1);
        Checks.due("7: it stays lost", x.of(2, 7), 3);
    }

    private static void promise13Look() {
        GlassValley x = new GlassValley();
        x.lend(1, 50);
        x.lend(3, 7);
        x.order(0, 2, 0, 30);
        x.order(0, 20, 0, 31);
        x.order(0, 3, 2, 32);
        x.order(0, 20, 5, 33);
        x.order(0, 1, 5, 34);
        x.drop(4);
        x.work();
        Checks.due("13: week", x.look(0), 1);
        Checks.due("13: came", x.look(1), 5);
        Checks.due("13: open", x.look(2), 1);
        Checks.due("13: done", x.look(3), 2);
        Checks.due("13: lost", x.look(4), 1);
        Checks.due("13: earned", x.look(5), 62);
        Checks.due("13: silver of 0", x.look(10), 0);
        Checks.due("13: silver of 1", x.look(11), 40);
        Checks.due("13: silver of 2", x.look(12), 0);
        Checks.due("13: silver of 3", x.look(13), 7);
        Checks.due("13: used by 0", x.look(20), 0);
        Checks.due("13: used by 1", x.look(21), 10);
        Checks.due("13: used by 3", x.look(23), 0);
        for (int what : new int[] {-1, 6, 7, 8, 9, 14, 15, 19, 24, 25, 100,
            Integer.MIN_VALUE, Integer.MIN_VALUE + 9, Integer.MAX_VALUE}) {
            Checks.due("13: look(" + what + ")", x.look(what), -1);
        }
    }

    private static void promise14Of() {
        GlassValley x = new GlassValley();
        x.pattern(4, 6, 3, 25);
        x.lend(2, 999);
        x.order(4, 9, 3, 123);
        int[] due = {4, 9, 3, 123, 12, 72, 36, 0, 0, -1};
        for (int what = 0; what < 10; what++) {
            Checks.due("14: of(0, " + what + ")", x.of(0, what), due[what]);
        }
        x.work();
        Checks.due("14: work in all, though some is done", x.of(0, 5), 72);
        Checks.due("14: still open", x.of(0, 7), 0);
        Checks.due("14: worked", x.of(0, 8), 40);
        Checks.due("14: by", x.of(0, 9), 2);
        x.work();
        Checks.due("14: done", x.of(0, 7), 1);
        Checks.due("14: worked in all", x.of(0, 8), 72);
        Checks.due("14: done by", x.of(0, 9), 2);
        Checks.due("14: of(0, 10)", x.of(0, 10), -1);
        Checks.due("14: of(0, -1)", x.of(0, -1), -1);
        Checks.due("14: of(1, 0)", x.of(1, 0), -1);
        Checks.due("14: of(-1, 0)", x.of(-1, 0), -1);
        Checks.due("14: of(7, 0)", x.of(7, 0), -1);
        Checks.due("14: of(max, 0)", x.of(Integer.MAX_VALUE, 0), -1);
    }
}
