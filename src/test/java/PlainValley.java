import java.util.ArrayList;
import java.util.HashMap;
import java.util.List;
import java.util.Map;
import java.util.regex.Matcher;
import java.util.regex.Pattern;

/**
 * The document's valley as plainly as can be: hours are worked one by one and all
 * ways are tried. It shares no thought with the program, so that the two can be
 * held against each other.
 */
final class PlainValley {
    private static final Pattern TOKEN = Pattern.compile("[A-Za-z]+|[0-9]+|[^ \n]", Pattern.DOTALL);
    private static final Map<String, String> FORMS = Map.of(
        "own", "P by F ;", "lend", "P to F until W ;", "bar", "P from W to V ;", "free", "P ;");

    private static final class Ord {
        int p, gross, due, price, made, work, silver, state, worked, by = -1;
    }

    private static final class Custom {
        final int[] owner = {-1, -1, -1, -1, -1, -1};
        final boolean[][][] lent = new boolean[6][4][52];
        final boolean[][] barred = new boolean[6][52];
    }

    private static final class Way {
        int prices = -1;
        int work;
        int[] families;
    }

    private int week, earned, fault, place = -1;
    private final int[][] hours = new int[4][52];
    private final int[] silver = new int[4];
    private final int[] used = new int[4];
    private final int[][] patterns = new int[6][];
    private final List<Ord> orders = new ArrayList<>();
    private final StringBuilder tape = new StringBuilder();
    private Custom custom = new Custom();
    private Way best;

    PlainValley() {
        for (int[] row : hours) {
            java.util.Arrays.fill(row, 40);
        }
        for (int p = 0; p < 6; p++) {
            patterns[p] = new int[] {5, 2, 0};
        }
    }

    private static boolean in(int n, int least, int most) {
        return n >= least && n <= most;
    }

    boolean hours(int f, int w, int n) {
        if (!in(f, 0, 3) || !in(w, week, 51) || !in(n, 0, 99)) {
            return false;
        }
        hours[f][w] = n;
        best = null;
        return true;
    }

    boolean pattern(int p, int h, int s, int b) {
        if (!in(p, 0, 5) || !in(h, 1, 30) || !in(s, 0, 20) || !in(b, 0, 90)) {
            return false;
        }
        patterns[p] = new int[] {h, s, b};
        for (Ord o : orders) {
            if (o.p == p && o.state == 0) {
                reckon(o);
            }
        }
        best = null;
        return true;
    }

    private void reckon(Ord o) {
        int[] by = patterns[o.p];
        int m = 0;
        while (m - Math.ceil(m * by[2] / 100.0) < o.gross) {
            m++;
        }
        o.made = m;
        o.work = m * by[0];
        o.silver = m * by[1];
        o.worked = 0;
        o.by = -1;
    }

    boolean lend(int f, int grams) {
        if (!in(f, 0, 3) || !in(grams, 1, 9999) || silver[f] + grams > 99999) {
            return false;
        }
        silver[f] += grams;
        best = null;
        return true;
    }

    int bring(int f) {
        if (!in(f, 0, 3)) {
            return -1;
        }
        int had = silver[f];
        silver[f] = 0;
        best = null;
        return had;
    }

    int order(int p, int gross, int due, int price) {
        if (!in(p, 0, 5) || !in(gross, 1, 20) || !in(due, week, 51) || !in(price, 1, 9999) || orders.size() == 7) {
            return -1;
        }
        Ord o = new Ord();
        o.p = p;
        o.gross = gross;
        o.due = due;
        o.price = price;
        reckon(o);
        orders.add(o);
        best = null;
        return orders.size() - 1;
    }

    boolean drop(int i) {
        if (!in(i, 0, orders.size() - 1) || orders.get(i).state != 0) {
            return false;
        }
        orders.get(i).state = 2;
        best = null;
        return true;
    }

    int feed(int... numbers) {
        if (tape.length() > 480) {
            return -1;
        }
        for (int n : numbers) {
            tape.append((char) (n >>> 24)).append((char) (n >>> 16 & 255));
            tape.append((char) (n >>> 8 & 255)).append((char) (n & 255));
        }
        return tape.length();
    }

    boolean end(int n) {
        if (!in(n, 0, tape.length())) {
            return false;
        }
        tape.setLength(n);
        return true;
    }

    int custom() {
        String text = tape.toString();
        tape.setLength(0);
        List<String> tokens = new ArrayList<>();
        List<Integer> places = new ArrayList<>();
        for (Matcher m = TOKEN.matcher(text); m.find();) {
            tokens.add(m.group());
            places.add(m.start());
        }
        tokens.add("");
        places.add(text.length());
        Custom told = new Custom();
        fault = 0;
        place = -1;
        int lines = 0;
        int at = 0;
        while (!tokens.get(at).isEmpty()) {
            String form = FORMS.get(tokens.get(at));
            if (form == null || lines == 24) {
                return stop(form == null ? 1 : 3, places.get(at));
            }
            String kind = tokens.get(at);
            List<Integer> numbers = new ArrayList<>();
            for (String part : form.split(" ")) {
                at++;
                String token = tokens.get(at);
                boolean number = "PFWV".contains(part);
                if (number ? !token.matches("[0-9]{1,2}") : !token.equals(part)) {
                    return stop(1, places.get(at));
                }
                if (number) {
                    int n = Integer.parseInt(token);
                    if (n > (part.equals("P") ? 5 : part.equals("F") ? 3 : 51)
                        || part.equals("V") && n < numbers.get(1)) {
                        return stop(2, places.get(at));
                    }
                    numbers.add(n);
                }
            }
            at++;
            lines++;
            tell(told, kind, numbers);
        }
        custom = told;
        best = null;
        return lines;
    }

    private int stop(int kind, int where) {
        fault = kind;
        place = where;
        return -1;
    }

    private static void tell(Custom told, String kind, List<Integer> n) {
        int p = n.get(0);
        switch (kind) {
            case "own":
                told.owner[p] = n.get(1);
                told.lent[p] = new boolean[4][52];
                break;
            case "lend":
                for (int w = 0; w <= n.get(2); w++) {
                    told.lent[p][n.get(1)][w] = true;
                }
                break;
            case "bar":
                for (int w = n.get(1); w <= n.get(2); w++) {
                    told.barred[p][w] = true;
                }
                break;
            default:
                told.owner[p] = -1;
                break;
        }
    }

    int fault(int what) {
        return what == 0 ? fault : what == 1 ? place : -1;
    }

    int may(int f, int p, int w) {
        if (!in(f, 0, 3) || !in(p, 0, 5) || !in(w, 0, 51)) {
            return -1;
        }
        boolean right = custom.owner[p] == -1 || custom.owner[p] == f || custom.lent[p][f][w];
        return right && !custom.barred[p][w] ? 1 : 0;
    }

    int look(int what) {
        if (what == 0) {
            return week;
        }
        if (what == 1) {
            return orders.size();
        }
        if (in(what, 2, 4)) {
            int state = what == 2 ? 0 : what == 3 ? 1 : 3;
            return (int) orders.stream().filter(o -> o.state == state).count();
        }
        return what == 5 ? earned : in(what, 10, 13) ? silver[what - 10] : in(what, 20, 23) ? used[what - 20] : -1;
    }

    int of(int i, int what) {
        if (!in(i, 0, orders.size() - 1) || !in(what, 0, 9)) {
            return -1;
        }
        Ord o = orders.get(i);
        return new int[] {o.p, o.gross, o.due, o.price, o.made, o.work, o.silver, o.state, o.worked, o.by}[what];
    }

    int best(int what) {
        Way way = best();
        if (what == 0) {
            return way.prices;
        }
        if (what == 1) {
            return way.work;
        }
        int i = in(what, 10, 16) ? what - 10 : in(what, 20, 26) ? what - 20 : -1;
        if (!in(i, 0, orders.size() - 1) || way.families[i] == 4) {
            return -1;
        }
        if (what < 20) {
            return way.families[i];
        }
        int[][] weeks = weeksOf(way.families[i], setOf(way.families, way.families[i]));
        return weeks[i][weeks[i].length - 1];
    }

    int work() {
        if (week == 51) {
            return -1;
        }
        Way way = best();
        int[][][] weeks = new int[4][][];
        for (int f = 0; f < 4; f++) {
            weeks[f] = weeksOf(f, setOf(way.families, f));
        }
        for (int i = 0; i < orders.size(); i++) {
            int f = way.families[i];
            Ord o = orders.get(i);
            for (int n = 0; f < 4 && n < weeks[f][i].length && weeks[f][i][n] == week; n++) {
                if (o.by != f) {
                    o.by = f;
                    o.worked = 0;
                }
                o.worked++;
                if (o.worked == o.work) {
                    o.state = 1;
                    silver[f] -= o.silver;
                    used[f] += o.silver;
                    earned += o.price;
                }
            }
        }
        week++;
        for (Ord o : orders) {
            if (o.state == 0 && o.due < week) {
                o.state = 3;
            }
        }
        best = null;
        return week;
    }

    private Way best() {
        if (best == null) {
            best = new Way();
            tryWays(new int[orders.size()], 0, new HashMap<>());
        }
        return best;
    }

    private void tryWays(int[] families, int i, Map<Integer, Boolean> known) {
        if (i == orders.size()) {
            holdAgainstBest(families, known);
            return;
        }
        for (int f = orders.get(i).state == 0 ? 0 : 4; f <= 4; f++) {
            families[i] = f;
            tryWays(families, i + 1, known);
        }
    }

    private void holdAgainstBest(int[] families, Map<Integer, Boolean> known) {
        int prices = 0;
        int work = 0;
        for (int i = 0; i < families.length; i++) {
            if (families[i] < 4) {
                prices += orders.get(i).price;
                work += left(orders.get(i), families[i]);
            }
        }
        if (prices < best.prices || prices == best.prices && work >= best.work) {
            return;
        }
        for (int f = 0; f < 4; f++) {
            int set = setOf(families, f);
            int family = f;
            if (!known.computeIfAbsent(f * 128 + set, key -> canBe(family, set))) {
                return;
            }
        }
        best.prices = prices;
        best.work = work;
        best.families = families.clone();
    }

    private static int setOf(int[] families, int f) {
        int set = 0;
        for (int i = 0; i < families.length; i++) {
            set |= families[i] == f ? 1 << i : 0;
        }
        return set;
    }

    private static int left(Ord o, int f) {
        return o.by == f ? o.work - o.worked : o.work;
    }

    private boolean canBe(int f, int set) {
        int[][] weeks = weeksOf(f, set);
        int need = 0;
        for (int i = 0; i < orders.size(); i++) {
            if ((set >> i & 1) == 0) {
                continue;
            }
            Ord o = orders.get(i);
            need += o.silver;
            int last = weeks[i][weeks[i].length - 1];
            if (last > o.due) {
                return false;
            }
            for (int w = weeks[i][0]; w <= last; w++) {
                if (may(f, o.p, w) != 1) {
                    return false;
                }
            }
        }
        return need <= silver[f];
    }

    /** For each order of the set the week of every hour that is left; 99 beyond the last week. */
    private int[][] weeksOf(int f, int set) {
        List<Integer> hourRow = new ArrayList<>();
        for (int w = week; w < 52; w++) {
            for (int h = 0; h < hours[f][w]; h++) {
                hourRow.add(w);
            }
        }
        int[][] weeks = new int[orders.size()][0];
        int next = 0;
        for (int due = week; due < 52; due++) {
            for (int i = 0; i < orders.size(); i++) {
                if ((set >> i & 1) == 1 && orders.get(i).due == due) {
                    weeks[i] = new int[left(orders.get(i), f)];
                    for (int h = 0; h < weeks[i].length; h++) {
                        weeks[i][h] = next < hourRow.size() ? hourRow.get(next) : 99;
                        next++;
                    }
                }
            }
        }
        return weeks;
    }
}
