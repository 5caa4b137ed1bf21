import java.util.Random;

/** All promises: long runs of calls, each answer held against the plain valley's. */
public final class RandomRunsTest {
    private static final int RUNS = 400;
    // An object answers 512 calls: the last look at all takes 163, a custom some 30.
    private static final int CALLS = 512 - 163 - 40;
    private static final String[] WORDS = {"own", "by", "lend", "to", "until", "bar", "from", "free", ";",
        "0", "1", "5", "6", "51", "52", "007", "Own", "x", "\n", ",", "\u00e9", "ownby"};

    private final Random random;
    private final GlassValley x = new GlassValley();
    private final PlainValley plain = new PlainValley();
    private final String run;
    // Some valleys are poor in hours, silver or time, so that not all can be done.
    private final int mostHours;
    private final int mostSilver;
    private final int mostDue;
    private final int mostPrice;
    private int calls;

    private RandomRunsTest(int seed) {
        random = new Random(seed);
        run = "run " + seed + ": ";
        mostHours = pick(20, 40, 99);
        mostSilver = pick(20, 60, 400, 9999);
        mostDue = pick(1, 4, 10);
        mostPrice = pick(2, 5, 100, 9999);
    }

    public static void main(String[] args) {
        for (int seed = 0; seed < RUNS; seed++) {
            new RandomRunsTest(seed).go();
        }
        Checks.finish();
    }

    private void go() {
        for (int f = 0; f < 4; f++) {
            lend(f, 1 + random.nextInt(mostSilver));
            for (int w = 0; w < 6; w++) {
                hours(f, w, random.nextInt(mostHours + 1));
            }
        }
        while (calls < CALLS) {
            call(random.nextInt(100));
        }
        lookAtAll();
        Checks.due(run + "calls within what is promised", calls <= 512, true);
    }

    private void due(String call, long got, long want) {
        calls++;
        Checks.due(run + call, got, want);
    }

    private void due(String call, boolean got, boolean want) {
        calls++;
        Checks.due(run + call, got, want);
    }

    private void call(int kind) {
        if (kind < 18) {
            hours(near(0, 3), plain.look(0) + near(0, 5), near(0, mostHours));
        } else if (kind < 24) {
            pattern(near(0, 5), near(1, 8), near(0, 5), random.nextInt(4) == 0 ? near(0, 90) : near(0, 20));
        } else if (kind < 34) {
            lend(near(0, 3), near(1, mostSilver));
        } else if (kind < 37) {
            int f = near(0, 3);
            due("bring", x.bring(f), plain.bring(f));
        } else if (kind < 47) {
            int p = near(0, 5), gross = near(1, 20), due = plain.look(0) + near(0, mostDue), price = near(1, mostPrice);
            due("order", x.order(p, gross, due, price), plain.order(p, gross, due, price));
        } else if (kind == 47) {
            int i = near(0, 6);
            due("drop", x.drop(i), plain.drop(i));
        } else if (kind < 53) {
            custom(random.nextInt(5) == 0 ? anyText() : customText());
        } else if (kind < 58) {
            int n = near(0, 500);
            due("end", x.end(n), plain.end(n));
            feed(random.nextInt(), 0x20202020, random.nextInt(), 0x66726565, 0x20313b20);
        } else if (kind < 61) {
            due("work", x.work(), plain.work());
            lookAtSome(12);
        } else {
            lookAtSome(3);
            int f = near(0, 3), p = near(0, 5), w = near(0, 51);
            due("may", x.may(f, p, w), plain.may(f, p, w));
        }
    }

    private void hours(int f, int w, int n) {
        due("hours", x.hours(f, w, n), plain.hours(f, w, n));
    }

    private void pattern(int p, int hours, int silver, int breaks) {
        due("pattern", x.pattern(p, hours, silver, breaks), plain.pattern(p, hours, silver, breaks));
    }

    private void lend(int f, int grams) {
        due("lend", x.lend(f, grams), plain.lend(f, grams));
    }

    private void feed(int a, int b, int c, int d, int e) {
        due("feed", x.feed(a, b, c, d, e), plain.feed(a, b, c, d, e));
    }

    private void custom(String text) {
        for (int[] n : Checks.feeds(text)) {
            feed(n[0], n[1], n[2], n[3], n[4]);
        }
        due("custom", x.custom(), plain.custom());
        for (int what = -1; what <= 2; what++) {
            due("fault(" + what + ") of '" + text + "'", x.fault(what), plain.fault(what));
        }
    }

    private String customText() {
        StringBuilder text = new StringBuilder();
        int lines = random.nextInt(8) == 0 ? 22 + random.nextInt(5) : random.nextInt(7);
        for (int n = 0; n < lines; n++) {
            int p = near(0, 5), f = near(0, 3), w = random.nextInt(12);
            switch (random.nextInt(5)) {
                case 0: text.append("own ").append(p).append(" by ").append(f); break;
                case 1:
                case 2: text.append("lend ").append(p).append(" to ").append(f).append(" until ").append(w); break;
                case 3: text.append("bar ").append(p).append(" from ").append(w).append(" to ")
                    .append(w + random.nextInt(3)); break;
                default: text.append("free ").append(p); break;
            }
            text.append(random.nextInt(40) == 0 ? WORDS[random.nextInt(WORDS.length)] : ";");
        }
        return text.toString();
    }

    private String anyText() {
        StringBuilder text = new StringBuilder();
        for (int n = random.nextInt(12); n > 0; n--) {
            text.append(WORDS[random.nextInt(WORDS.length)]).append(random.nextBoolean() ? " " : "");
        }
        return text.toString();
    }

    private void lookAtSome(int times) {
        for (int n = 0; n < times; n++) {
            int i = near(0, 6), what = near(0, 9), of = pick(0, 1, 10 + i, 20 + i);
            due("best(" + of + ")", x.best(of), plain.best(of));
            due("of(" + i + ", " + what + ")", x.of(i, what), plain.of(i, what));
        }
    }

    private void lookAtAll() {
        for (int what = -1; what <= 27; what++) {
            due("best(" + what + ")", x.best(what), plain.best(what));
        }
        for (int what = -1; what <= 24; what++) {
            due("look(" + what + ")", x.look(what), plain.look(what));
        }
        for (int i = -1; i <= 7; i++) {
            for (int what = -1; what <= 10; what++) {
                due("of(" + i + ", " + what + ")", x.of(i, what), plain.of(i, what));
            }
        }
    }

    /** Mostly what can be, now and then just beside it or far away. */
    private int near(int least, int most) {
        return random.nextInt(60) == 0 ? pick(least - 1, most + 1, Integer.MIN_VALUE, Integer.MAX_VALUE)
            : least + random.nextInt(most - least + 1);
    }

    private int pick(int... of) {
        return of[random.nextInt(of.length)];
    }
}
