/**
 * Every number that a call takes, at both ends: the last value that can be, the first that
 * can't, the smallest and the largest int. What is refused does nothing, in a new valley, in
 * a busy one, in one that is full, and in the last week.
 */
public final class RefusedTest {
    private static final int FALSE = 0;
    private static final int NONE = -1;

    private interface Call {
        int on(GlassValley x, int[] numbers);
    }

    private final States state;

    private RefusedTest(States state) {
        this.state = state;
    }

    public static void main(String[] args) {
        theStatesAreAsTold();
        for (States state : States.all()) {
            RefusedTest test = new RefusedTest(state);
            test.callsThatTell();
            test.callsThatAsk();
            test.ordersThatAreNotOpen();
            test.allThatThereIsRoomFor();
        }
        Checks.finish();
    }

    private static void theStatesAreAsTold() {
        for (States state : States.all()) {
            GlassValley x = state.valley();
            Checks.due(state.name + ": week", x.look(0), state.week);
            Checks.due(state.name + ": came", x.look(1), state.came);
            Checks.due(state.name + ": its tape is no longer", x.end(state.tape + 1), false);
            Checks.due(state.name + ": its tape", x.end(state.tape), true);
        }
        dueStates(States.BUSY, 1, 0, 3, 2, 0);
        dueStates(States.FULL, 0, 0, 0, 0, 0, 0, 0);
        dueStates(States.LAST, 0, 0, 3);
        Checks.due("busy: order 1 is worked at", States.BUSY.valley().of(1, 8), 20);
        Checks.due("busy: the latest fault", States.BUSY.valley().fault(0), 2);
        Checks.due("full: grams", States.FULL.valley().look(11), 99999);
        Checks.due("full: lines", States.FULL.valley().custom(), 24);
        Checks.due("last: best", States.LAST.valley().best(0), 7);
    }

    private static void dueStates(States state, int... states) {
        for (int i = 0; i < states.length; i++) {
            Checks.due(state.name + ": state of order " + i, state.valley().of(i, 7), states[i]);
        }
    }

    private void callsThatTell() {
        int[] weeks = {state.week, 51};
        for (int week : weeks) {
            edges("2: hours", (x, n) -> x.hours(n[0], n[1], n[2]) ? 1 : 0, FALSE,
                new int[] {2, week, 20}, new int[][] {{0, 3}, weeks, {0, 99}});
        }
        edges("3: pattern", (x, n) -> x.pattern(n[0], n[1], n[2], n[3]) ? 1 : 0, FALSE,
            new int[] {2, 7, 3, 10}, new int[][] {{0, 5}, {1, 30}, {0, 20}, {0, 90}});
        edges("4: lend", (x, n) -> x.lend(n[0], n[1]) ? 1 : 0, FALSE,
            new int[] {2, 50}, new int[][] {{0, 3}, {1, 9999}});
        edges("5: bring", (x, n) -> x.bring(n[0]), NONE, new int[] {2}, new int[][] {{0, 3}});
        edges("9: end", (x, n) -> x.end(n[0]) ? 1 : 0, FALSE, new int[] {0}, new int[][] {{0, state.tape}});
        if (state != States.FULL) {
            edges("6: order", (x, n) -> x.order(n[0], n[1], n[2], n[3]), NONE,
                new int[] {2, 5, 51, 40}, new int[][] {{0, 5}, {1, 20}, weeks, {1, 9999}});
        }
    }

    private void callsThatAsk() {
        edges("12: may", (x, n) -> x.may(n[0], n[1], n[2]), NONE,
            new int[] {2, 2, 20}, new int[][] {{0, 3}, {0, 5}, {0, 51}});
        Call look = (x, n) -> x.look(n[0]);
        Call best = (x, n) -> x.best(n[0]);
        Call fault = (x, n) -> x.fault(n[0]);
        Call of = (x, n) -> x.of(n[0], n[1]);
        for (int what : new int[] {Integer.MIN_VALUE, -1, 6, 9, 14, 19, 24, Integer.MAX_VALUE}) {
            dueRefused("13: look", look, NONE, what);
        }
        for (int what : new int[] {Integer.MIN_VALUE, -1, 2, 9, 17, 19, 27, Integer.MAX_VALUE}) {
            dueRefused("15: best", best, NONE, what);
        }
        for (int what : new int[] {Integer.MIN_VALUE, -1, 2, Integer.MAX_VALUE}) {
            dueRefused("11: fault", fault, NONE, what);
        }
        for (int what : new int[] {Integer.MIN_VALUE, -1, 10, Integer.MAX_VALUE}) {
            dueRefused("14: of", of, NONE, 0, what);
        }
        for (int i : new int[] {Integer.MIN_VALUE, -1, state.came, 7, Integer.MAX_VALUE}) {
            dueRefused("14: of", of, NONE, i, 0);
        }
    }

    private void ordersThatAreNotOpen() {
        Call drop = (x, n) -> x.drop(n[0]) ? 1 : 0;
        for (int i : new int[] {Integer.MIN_VALUE, -1, state.came, 7, Integer.MAX_VALUE}) {
            dueRefused("7: drop, none such", drop, FALSE, i);
        }
        for (int i = 0; i < state.came; i++) {
            if (state.valley().of(i, 7) != 0) {
                dueRefused("7: drop, not open", drop, FALSE, i);
            }
        }
    }

    private void allThatThereIsRoomFor() {
        if (state == States.FULL) {
            dueRefused("6: an eighth order", (x, n) -> x.order(n[0], n[1], n[2], n[3]), NONE, 2, 5, 51, 40);
            dueRefused("8: the 501st byte", (x, n) -> x.feed(n[0], n[1], n[2], n[3], n[4]), NONE, 1, 2, 3, 4, 5);
            dueRefused("4: the 100000th gram", (x, n) -> x.lend(n[0], n[1]) ? 1 : 0, FALSE, 1, 1);
            dueRefused("4: 9999 grams more", (x, n) -> x.lend(n[0], n[1]) ? 1 : 0, FALSE, 1, 9999);
        }
        if (state == States.LAST) {
            dueRefused("16: work in week 51", (x, n) -> x.work(), NONE);
        }
    }

    private void edges(String name, Call call, int refusal, int[] within, int[][] ends) {
        for (int at = 0; at < ends.length; at++) {
            int least = ends[at][0];
            int most = ends[at][1];
            for (int beyond : new int[] {Integer.MIN_VALUE, least - 1, most + 1, Integer.MAX_VALUE}) {
                int[] numbers = within.clone();
                numbers[at] = beyond;
                dueRefused(name, call, refusal, numbers);
            }
        }
        // All corners: each number at the one or at the other of its ends.
        for (int corner = 0; corner < 1 << ends.length; corner++) {
            int[] numbers = new int[ends.length];
            for (int at = 0; at < ends.length; at++) {
                numbers[at] = ends[at][corner >> at & 1];
            }
            Checks.due(told(name, numbers) + " is refused", call.on(state.valley(), numbers) == refusal, false);
        }
    }

    private void dueRefused(String name, Call call, int refusal, int... numbers) {
        String about = told(name, numbers);
        Twins.dueNothingDone(about, state, x -> Checks.due(about, call.on(x, numbers), refusal));
    }

    private String told(String name, int[] numbers) {
        StringBuilder told = new StringBuilder(name).append(" (").append(state.name).append(')');
        for (int n : numbers) {
            told.append(' ').append(n);
        }
        return told.toString();
    }
}
