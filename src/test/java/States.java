/** The valleys in which edges are tried: each is made anew by the same calls. */
final class States {
    interface Calls {
        void on(GlassValley x);
    }

    static final int BLANKS = 0x20202020;

    static final States EMPTY = new States("new", 0, 0, 0, States::makeEmpty);
    static final States BUSY = new States("busy", 1, 5, 30, States::makeBusy);
    static final States FULL = new States("full", 1, 7, 500, States::makeFull);
    static final States LAST = new States("in the last week", 51, 3, 20, States::makeLast);

    final String name;
    final int week;
    final int came;
    final int tape;
    private final Calls make;

    private States(String name, int week, int came, int tape, Calls make) {
        this.name = name;
        this.week = week;
        this.came = came;
        this.tape = tape;
        this.make = make;
    }

    static States[] all() {
        return new States[] {EMPTY, BUSY, FULL, LAST};
    }

    GlassValley valley() {
        GlassValley x = new GlassValley();
        make.on(x);
        return x;
    }

    private static void makeEmpty(GlassValley x) { }

    /** Order 0 is done, 1 is worked at, 2 is lost, 3 is dropped, 4 is open; the latest custom had a fault. */
    private static void makeBusy(GlassValley x) {
        x.lend(0, 300);
        x.lend(1, 200);
        x.lend(3, 5);
        x.hours(2, 3, 0);
        x.hours(1, 1, 17);
        x.pattern(1, 3, 1, 10);
        x.pattern(4, 30, 20, 90);
        Checks.custom(x, "own 0 by 1; lend 0 to 0 until 9; bar 2 from 3 to 4; own 5 by 0; lend 5 to 2 until 51;");
        x.order(0, 4, 0, 50);
        x.order(1, 20, 8, 70);
        x.order(3, 20, 0, 9);
        x.order(3, 2, 9, 8);
        x.order(0, 20, 9, 99);
        x.drop(3);
        x.work();
        Checks.custom(x, "free 9;");
        Checks.feed(x, "own 3 by 2; bar 1 from 7 to 9;");
    }

    /** 7 orders, all open; family 1 has 99999 grams; 24 lines in 500 bytes. */
    private static void makeFull(GlassValley x) {
        x.lend(0, 500);
        for (int n = 0; n < 10; n++) {
            x.lend(1, 9999);
        }
        x.lend(1, 9);
        x.lend(3, 60);
        Checks.custom(x, "own 1 by 1; own 3 by 3; bar 4 from 30 to 51;");
        for (int i = 0; i < 7; i++) {
            x.order(i % 6, 9 + i, 10 + i, 1 + 100 * i);
        }
        x.work();
        Checks.feed(x, "lend 0 to 0 until 0;".repeat(24) + " ".repeat(20));
    }

    /** Orders 0 and 1 are open, of which 0 can be done now; order 2 is lost. */
    private static void makeLast(GlassValley x) {
        x.order(0, 1, 51, 7);
        x.order(2, 20, 51, 9);
        x.order(3, 2, 3, 4);
        for (int w = 0; w < 51; w++) {
            x.work();
        }
        x.lend(0, 100);
        x.lend(2, 40);
        Checks.feed(x, "own 3 by 2; free 3 ;");
    }
}
