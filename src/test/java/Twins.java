import java.util.ArrayList;
import java.util.HashMap;
import java.util.List;
import java.util.Map;

/**
 * Two valleys that hear the same calls, but that one of them hears a call besides which it
 * refuses: all that they are asked behind it, they must answer alike. Each probe asks for
 * something else, of valleys made anew, and keeps to 512 calls.
 */
final class Twins {
    private static final int LOOKS = 0;
    private static final int RIGHTS = 1;
    private static final int HOURS = 5;
    private static final int LAST_HOURS = 9;
    private static final int PATTERNS = 13;
    private static final int WEEKS = 16;
    private static final int TAPE = 17;
    private static final int TAPE_AND_MORE = 18;
    private static final int PROBES = 19;

    // What the twin that heard no other call answers is the same each time.
    private static final Map<String, List<Integer>> KNOWN = new HashMap<>();

    private Twins() { }

    static void dueNothingDone(String about, States state, States.Calls refused) {
        for (int probe = 0; probe < PROBES; probe++) {
            GlassValley x = state.valley();
            refused.on(x);
            int which = probe;
            List<Integer> alone = KNOWN.computeIfAbsent(state.name + probe, k -> answers(which, state.valley()));
            Checks.due(about + " did something, seen by probe " + probe, !answers(probe, x).equals(alone), false);
        }
    }

    private static List<Integer> answers(int probe, GlassValley x) {
        List<Integer> answers = new ArrayList<>();
        if (probe == LOOKS) {
            askLooks(x, answers);
        } else if (probe < HOURS) {
            askRights(x, probe - RIGHTS, answers);
        } else if (probe < LAST_HOURS) {
            askHours(x, probe - HOURS, answers);
        } else if (probe < PATTERNS) {
            askLastHours(x, probe - LAST_HOURS, answers);
        } else if (probe < WEEKS) {
            askPattern(x, 2 * (probe - PATTERNS), answers);
            askPattern(x, 2 * (probe - PATTERNS) + 1, answers);
        } else if (probe == WEEKS) {
            askWeeks(x, answers);
        } else if (probe == TAPE) {
            askTape(x, answers);
        } else if (probe == TAPE_AND_MORE) {
            answers.add(x.feed(0x66726565, 0x20393b20, States.BLANKS, States.BLANKS, 0x6f776e20));
            askTape(x, answers);
        }
        return answers;
    }

    private static void askLooks(GlassValley x, List<Integer> answers) {
        for (int what = 0; what <= 27; what++) {
            answers.add(x.look(what));
            answers.add(x.best(what));
        }
        for (int i = 0; i < 7; i++) {
            for (int what = 0; what < 10; what++) {
                answers.add(x.of(i, what));
            }
        }
        answers.add(x.fault(0));
        answers.add(x.fault(1));
    }

    private static void askRights(GlassValley x, int f, List<Integer> answers) {
        for (int p = 0; p < 6; p++) {
            for (int w = 0; w < 52; w++) {
                answers.add(x.may(f, p, w));
            }
        }
    }

    /** Family f alone may work, at nothing that was there ahead. */
    private static void clearFor(GlassValley x, int f) {
        for (int i = 0; i < 7; i++) {
            x.drop(i);
        }
        Checks.custom(x, "own 2 by 0; own 3 by 0; own 4 by 0;".replace("by 0", "by " + f));
        x.pattern(2, 5, 0, 0);
        x.pattern(3, 9, 0, 90);
        x.pattern(4, 1, 0, 0);
    }

    /** Family f gets 40 hours of work now, an hour besides, and work for nearly all weeks. */
    private static void askHours(GlassValley x, int f, List<Integer> answers) {
        int now = x.look(0);
        int first = x.look(1);
        clearFor(x, f);
        answers.add(x.order(2, 8, now, 99));
        answers.add(x.order(3, 20, 51, 9));
        answers.add(x.order(4, 1, now, 1));
        for (int w = now; w <= 51; w++) {
            answers.add(x.best(0));
            answers.add(x.best(20 + first));
            answers.add(x.best(21 + first));
            answers.add(x.work());
            answers.add(x.of(first, 8));
            answers.add(x.of(first + 1, 8));
        }
    }

    /** Family f gets 40 hours of work in the last week, and an hour besides. */
    private static void askLastHours(GlassValley x, int f, List<Integer> answers) {
        clearFor(x, f);
        for (int w = x.look(0); w < 51; w++) {
            x.hours(f, w, 0);
        }
        answers.add(x.order(2, 8, 51, 99));
        answers.add(x.order(4, 1, 51, 1));
        answers.add(x.best(0));
    }

    private static void askPattern(GlassValley x, int p, List<Integer> answers) {
        int i = x.order(p, 7, 51, 1);
        answers.add(i);
        for (int what = 0; what < 10; what++) {
            answers.add(x.of(i, what));
        }
    }

    private static void askWeeks(GlassValley x, List<Integer> answers) {
        for (int w = x.look(0); w <= 51; w++) {
            answers.add(x.work());
            for (int i = 0; i < 7; i++) {
                answers.add(x.of(i, 8));
            }
        }
        for (int what = 2; what < 24; what++) {
            answers.add(x.look(what));
        }
    }

    private static void askTape(GlassValley x, List<Integer> answers) {
        answers.add(x.custom());
        answers.add(x.fault(0));
        answers.add(x.fault(1));
        for (int p = 0; p < 6; p++) {
            for (int f = 0; f < 4; f++) {
                for (int w = 0; w < 52; w += 7) {
                    answers.add(x.may(f, p, w));
                }
            }
        }
    }
}
