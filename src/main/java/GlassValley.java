/**
 * A valley that blows glass balls at home: families, patterns, a custom that
 * tells who may make what, orders for ships, and the best way to share them.
 */
public final class GlassValley {
    /** There is none. */
    public static final int NONE = -1;

    private static final int LAST_WEEK = 51;
    private static final int WEEKS = LAST_WEEK + 1;
    private static final int FAMILIES = 4;
    private static final int PATTERNS = 6;
    private static final int ORDERS = 7;
    private static final int ORDER_SETS = 1 << ORDERS;

    private static final int MOST_HOURS_A_WEEK = 99;
    private static final int MOST_HOURS_A_GROSS = 30;
    private static final int MOST_SILVER_A_GROSS = 20;
    private static final int MOST_BREAKS = 90;
    private static final int MOST_GROSS = 20;
    private static final int MOST_PRICE = 9999;
    private static final int MOST_LENT_AT_ONCE = 9999;
    private static final int MOST_SILVER = 99999;
    // 20 gross of which 90 of 100 break: no order needs more.
    private static final int MOST_MADE = 200;

    private static final int OPEN = 0;
    private static final int DONE = 1;
    private static final int DROPPED = 2;
    private static final int LOST = 3;

    private static final int TAPE_SIZE = 500;
    private static final int BYTES_A_FEED = 20;
    private static final int MOST_LINES = 24;

    private static final int CANT_STAND = 1;
    private static final int CANT_BE = 2;
    private static final int TOO_MANY = 3;

    private static final int NO_TOKEN = 0;
    private static final int TEXT_END = 1;
    private static final int SEMICOLON = 2;
    private static final int NUMBER = 3;
    private static final int OWN = 4;
    private static final int BY = 5;
    private static final int LEND = 6;
    private static final int TO = 7;
    private static final int UNTIL = 8;
    private static final int BAR = 9;
    private static final int FROM = 10;
    private static final int FREE = 11;

    // Numbers by what they tell: they stand in the forms below where the token is NUMBER.
    private static final int PATTERN_NUMBER = 12;
    private static final int FAMILY_NUMBER = 13;
    private static final int WEEK_NUMBER = 14;
    private static final int SECOND_WEEK_NUMBER = 15;

    // What stands behind the first keyword of a line.
    private static final int[] OWN_FORM = {PATTERN_NUMBER, BY, FAMILY_NUMBER, SEMICOLON};
    private static final int[] LEND_FORM =
        {PATTERN_NUMBER, TO, FAMILY_NUMBER, UNTIL, WEEK_NUMBER, SEMICOLON};
    private static final int[] BAR_FORM =
        {PATTERN_NUMBER, FROM, WEEK_NUMBER, TO, SECOND_WEEK_NUMBER, SEMICOLON};
    private static final int[] FREE_FORM = {PATTERN_NUMBER, SEMICOLON};
    private static final int MOST_NUMBERS_A_LINE = 3;

    // One number ranks a way: prices, then work (at most 42000 hours), then families.
    // Each unit is above all that the ones behind it can sum up to.
    private static final long PRICE_UNIT = 10_000_000_000L;
    private static final long WORK_UNIT = 100_000L;
    // Families of orders 0, 1, .. as digits of a number to the base 5 (none is the fifth).
    private static final int[] ORDER_UNITS = {15625, 3125, 625, 125, 25, 5, 1};

    private final Family[] families = new Family[FAMILIES];
    private final Pattern[] patterns = new Pattern[PATTERNS];
    private final ShipOrder[] orders = new ShipOrder[ORDERS];
    private final CustomReader reader = new CustomReader();
    private final Plan plan = new Plan();
    private Rights rights = new Rights();
    private Rights spareRights = new Rights();
    private boolean planned;
    private int week;
    private int came;
    private int earned;

    public GlassValley() {
        for (int f = 0; f < FAMILIES; f++) {
            families[f] = new Family(f);
        }
        for (int p = 0; p < PATTERNS; p++) {
            patterns[p] = new Pattern();
        }
        for (int i = 0; i < ORDERS; i++) {
            orders[i] = new ShipOrder(i);
        }
    }

    public boolean hours(int f, int week, int n) {
        if (!isFamily(f) || !isWeekToCome(week) || !isWithin(n, 0, MOST_HOURS_A_WEEK)) {
            return false;
        }
        families[f].hours[week] = n;
        planned = false;
        return true;
    }

    public boolean pattern(int p, int hours, int silver, int breaks) {
        if (!isPattern(p) || !isWithin(hours, 1, MOST_HOURS_A_GROSS)
            || !isWithin(silver, 0, MOST_SILVER_A_GROSS) || !isWithin(breaks, 0, MOST_BREAKS)) {
            return false;
        }
        patterns[p].hours = hours;
        patterns[p].silver = silver;
        patterns[p].breaks = breaks;
        for (int i = 0; i < came; i++) {
            if (orders[i].state == OPEN && orders[i].pattern == p) {
                orders[i].reckonAnew(patterns[p]);
            }
        }
        planned = false;
        return true;
    }

    public boolean lend(int f, int grams) {
        if (!isFamily(f) || !isWithin(grams, 1, MOST_LENT_AT_ONCE)
            || families[f].silver + grams > MOST_SILVER) {
            return false;
        }
        families[f].silver += grams;
        planned = false;
        return true;
    }

    public int bring(int f) {
        if (!isFamily(f)) {
            return NONE;
        }
        int brought = families[f].silver;
        families[f].silver = 0;
        planned = false;
        return brought;
    }

    public int order(int p, int gross, int due, int price) {
        if (!isPattern(p) || !isWithin(gross, 1, MOST_GROSS) || !isWeekToCome(due)
            || !isWithin(price, 1, MOST_PRICE) || came >= ORDERS) {
            return NONE;
        }
        ShipOrder taken = orders[came];
        taken.pattern = p;
        taken.gross = gross;
        taken.due = due;
        taken.price = price;
        taken.reckonAnew(patterns[p]);
        came++;
        planned = false;
        return taken.number;
    }

    public boolean drop(int i) {
        if (!isOrder(i) || orders[i].state != OPEN) {
            return false;
        }
        orders[i].state = DROPPED;
        planned = false;
        return true;
    }

    public int feed(int a, int b, int c, int d, int e) {
        Tape tape = reader.tape;
        if (tape.length + BYTES_A_FEED > TAPE_SIZE) {
            return NONE;
        }
        tape.put(a);
        tape.put(b);
        tape.put(c);
        tape.put(d);
        tape.put(e);
        return tape.length;
    }

    public boolean end(int n) {
        if (!isWithin(n, 0, reader.tape.length)) {
            return false;
        }
        reader.tape.length = n;
        return true;
    }

    public int custom() {
        boolean faultless = reader.readInto(spareRights);
        reader.tape.length = 0;
        if (!faultless) {
            return NONE;
        }
        Rights behind = rights;
        rights = spareRights;
        spareRights = behind;
        planned = false;
        return reader.lines;
    }

    public int fault(int what) {
        switch (what) {
            case 0: return reader.faultKind;
            case 1: return reader.faultPlace;
            default: return NONE;
        }
    }

    public int may(int f, int p, int week) {
        if (!isFamily(f) || !isPattern(p) || !isWithin(week, 0, LAST_WEEK)) {
            return NONE;
        }
        return rights.allow(f, p, week) ? 1 : 0;
    }

    public int look(int what) {
        if (isFamily(what - 10)) {
            return families[what - 10].silver;
        }
        if (isFamily(what - 20)) {
            return families[what - 20].used;
        }
        switch (what) {
            case 0: return week;
            case 1: return came;
            case 2: return countOrders(OPEN);
            case 3: return countOrders(DONE);
            case 4: return countOrders(LOST);
            case 5: return earned;
            default: return NONE;
        }
    }

    public int of(int i, int what) {
        if (!isOrder(i)) {
            return NONE;
        }
        ShipOrder asked = orders[i];
        switch (what) {
            case 0: return asked.pattern;
            case 1: return asked.gross;
            case 2: return asked.due;
            case 3: return asked.price;
            case 4: return asked.made;
            case 5: return asked.hours;
            case 6: return asked.silver;
            case 7: return asked.state;
            case 8: return asked.worked;
            case 9: return asked.workedBy;
            default: return NONE;
        }
    }

    public int best(int what) {
        bringPlanUpToDate();
        if (isOrder(what - 10)) {
            return plan.familyOf[what - 10];
        }
        if (isOrder(what - 20)) {
            return plan.overIn[what - 20];
        }
        switch (what) {
            case 0: return plan.prices;
            case 1: return plan.hours;
            default: return NONE;
        }
    }

    public int work() {
        if (week >= LAST_WEEK) {
            return NONE;
        }
        bringPlanUpToDate();
        for (int i = 0; i < came; i++) {
            workAsPlanned(orders[i]);
        }
        week++;
        for (int i = 0; i < came; i++) {
            if (orders[i].state == OPEN && orders[i].due < week) {
                orders[i].state = LOST;
            }
        }
        planned = false;
        return week;
    }

    private void workAsPlanned(ShipOrder at) {
        int f = plan.familyOf[at.number];
        int hoursNow = plan.hoursNow[at.number];
        // Whoever is to begin in a later week has not made the earlier work void yet.
        if (!isFamily(f) || hoursNow == 0) {
            return;
        }
        at.workBy(f, hoursNow);
        if (at.worked >= at.hours) {
            at.state = DONE;
            families[f].silver -= at.silver;
            families[f].used += at.silver;
            earned += at.price;
        }
    }

    private void bringPlanUpToDate() {
        if (!planned) {
            plan.find(families, orders, came, rights, week);
            planned = true;
        }
    }

    private int countOrders(int state) {
        int count = 0;
        for (int i = 0; i < came; i++) {
            if (orders[i].state == state) {
                count++;
            }
        }
        return count;
    }

    private boolean isOrder(int i) {
        return i >= 0 && i < came;
    }

    private boolean isWeekToCome(int asked) {
        return isWithin(asked, week, LAST_WEEK);
    }

    private static boolean isFamily(int f) {
        return f >= 0 && f < FAMILIES;
    }

    private static boolean isPattern(int p) {
        return p >= 0 && p < PATTERNS;
    }

    private static boolean isWithin(int n, int least, int most) {
        return n >= least && n <= most;
    }

    private static final class Family {
        final int number;
        final int[] hours = new int[WEEKS];
        int silver;
        int used;

        Family(int number) {
            this.number = number;
            for (int w = 0; w < WEEKS; w++) {
                hours[w] = 40;
            }
        }
    }

    private static final class Pattern {
        int hours = 5;
        int silver = 2;
        int breaks = 0;

        int grossToMake(int gross) {
            for (int made = gross; made < MOST_MADE; made++) {
                int broken = (made * breaks + 99) / 100;
                if (made - broken >= gross) {
                    return made;
                }
            }
            return MOST_MADE;
        }
    }

    private static final class ShipOrder {
        final int number;
        int pattern;
        int gross;
        int due;
        int price;
        int made;
        int hours;
        int silver;
        int state = OPEN;
        int worked;
        int workedBy = NONE;

        ShipOrder(int number) {
            this.number = number;
        }

        void reckonAnew(Pattern by) {
            made = by.grossToMake(gross);
            hours = made * by.hours;
            silver = made * by.silver;
            worked = 0;
            workedBy = NONE;
        }

        int hoursLeftFor(int family) {
            return workedBy == family ? hours - worked : hours;
        }

        void workBy(int family, int hoursNow) {
            if (workedBy != family) {
                workedBy = family;
                worked = 0;
            }
            worked += hoursNow;
        }
    }

    /** What a custom tells: whose a pattern is, to whom it is lent, when it is barred. */
    private static final class Rights {
        // NONE: the pattern is free.
        private final int[] owner = new int[PATTERNS];
        private final int[][] lentUntil = new int[PATTERNS][FAMILIES];
        // A bit for each week.
        private final long[] barred = new long[PATTERNS];

        Rights() {
            forget();
        }

        void forget() {
            for (int p = 0; p < PATTERNS; p++) {
                give(p, NONE);
                barred[p] = 0L;
            }
        }

        void give(int p, int newOwner) {
            owner[p] = newOwner;
            for (int f = 0; f < FAMILIES; f++) {
                lentUntil[p][f] = NONE;
            }
        }

        void share(int p, int f, int until) {
            lentUntil[p][f] = Math.max(lentUntil[p][f], until);
        }

        void shut(int p, int from, int to) {
            for (int w = from; w <= to; w++) {
                barred[p] |= 1L << w;
            }
        }

        boolean allow(int f, int p, int week) {
            if ((barred[p] >> week & 1L) != 0L) {
                return false;
            }
            return owner[p] == NONE || owner[p] == f || lentUntil[p][f] >= week;
        }
    }

    /** The bytes that were fed, and the tokens that they are. */
    private static final class Tape {
        int length;
        int token;
        int place;
        int value;
        private final byte[] bytes = new byte[TAPE_SIZE];
        private int next;

        void put(int number) {
            for (int shift = 24; shift >= 0 && length < TAPE_SIZE; shift -= 8) {
                bytes[length] = (byte) (number >> shift);
                length++;
            }
        }

        void rewind() {
            next = 0;
            readToken();
        }

        void readToken() {
            skipBlanks();
            place = next;
            if (next >= length) {
                token = TEXT_END;
            } else if (isLetter(bytes[next])) {
                skipLetters();
                token = keyword();
            } else if (isDigit(bytes[next])) {
                readNumber();
            } else {
                token = bytes[next] == ';' ? SEMICOLON : NO_TOKEN;
                next++;
            }
        }

        private void skipBlanks() {
            while (next < length && (bytes[next] == 32 || bytes[next] == 10)) {
                next++;
            }
        }

        private void skipLetters() {
            while (next < length && isLetter(bytes[next])) {
                next++;
            }
        }

        private void readNumber() {
            value = 0;
            while (next < length && isDigit(bytes[next])) {
                value = value * 10 + (bytes[next] - '0');
                next++;
            }
            token = next - place <= 2 ? NUMBER : NO_TOKEN;
        }

        private int keyword() {
            if (isWord("own")) {
                return OWN;
            }
            if (isWord("by")) {
                return BY;
            }
            if (isWord("lend")) {
                return LEND;
            }
            if (isWord("to")) {
                return TO;
            }
            if (isWord("until")) {
                return UNTIL;
            }
            if (isWord("bar")) {
                return BAR;
            }
            if (isWord("from")) {
                return FROM;
            }
            return isWord("free") ? FREE : NO_TOKEN;
        }

        private boolean isWord(String word) {
            if (next - place != word.length()) {
                return false;
            }
            for (int n = 0; n < word.length(); n++) {
                if (bytes[place + n] != word.charAt(n)) {
                    return false;
                }
            }
            return true;
        }

        private static boolean isLetter(byte b) {
            return b >= 'a' && b <= 'z' || b >= 'A' && b <= 'Z';
        }

        private static boolean isDigit(byte b) {
            return b >= '0' && b <= '9';
        }
    }

    /** Reads the tape as a custom, and keeps the fault of the latest reading. */
    private static final class CustomReader {
        final Tape tape = new Tape();
        int lines;
        int faultKind;
        int faultPlace = NONE;
        private final int[] numbers = new int[MOST_NUMBERS_A_LINE];

        boolean readInto(Rights told) {
            lines = 0;
            faultKind = 0;
            faultPlace = NONE;
            told.forget();
            tape.rewind();
            // The line behind the last that may be is a fault, so one turn more is enough.
            for (int n = 0; n <= MOST_LINES && tape.token != TEXT_END; n++) {
                if (!readLine(told)) {
                    return false;
                }
            }
            return true;
        }

        private boolean readLine(Rights told) {
            int kind = tape.token;
            if (kind != OWN && kind != LEND && kind != BAR && kind != FREE) {
                return stopAt(CANT_STAND);
            }
            if (lines >= MOST_LINES) {
                return stopAt(TOO_MANY);
            }
            tape.readToken();
            if (!readParts(formOf(kind))) {
                return false;
            }
            tell(kind, told);
            lines++;
            return true;
        }

        private static int[] formOf(int kind) {
            switch (kind) {
                case OWN: return OWN_FORM;
                case LEND: return LEND_FORM;
                case BAR: return BAR_FORM;
                default: return FREE_FORM;
            }
        }

        private boolean readParts(int[] form) {
            int count = 0;
            for (int n = 0; n < form.length; n++) {
                boolean wantsNumber = form[n] >= PATTERN_NUMBER;
                if (tape.token != (wantsNumber ? NUMBER : form[n])) {
                    return stopAt(CANT_STAND);
                }
                if (wantsNumber && count < MOST_NUMBERS_A_LINE) {
                    if (!isWithin(tape.value, leastOf(form[n]), mostOf(form[n]))) {
                        return stopAt(CANT_BE);
                    }
                    numbers[count] = tape.value;
                    count++;
                }
                tape.readToken();
            }
            return true;
        }

        private int leastOf(int part) {
            // The first week of a bar is its second number.
            return part == SECOND_WEEK_NUMBER ? numbers[1] : 0;
        }

        private static int mostOf(int part) {
            switch (part) {
                case PATTERN_NUMBER: return PATTERNS - 1;
                case FAMILY_NUMBER: return FAMILIES - 1;
                default: return LAST_WEEK;
            }
        }

        private void tell(int kind, Rights told) {
            switch (kind) {
                case OWN:
                    told.give(numbers[0], numbers[1]);
                    break;
                case LEND:
                    told.share(numbers[0], numbers[1], numbers[2]);
                    break;
                case BAR:
                    told.shut(numbers[0], numbers[1], numbers[2]);
                    break;
                default:
                    told.give(numbers[0], NONE);
                    break;
            }
        }

        private boolean stopAt(int kind) {
            faultKind = kind;
            faultPlace = tape.place;
            return false;
        }
    }

    /** Where a family stands in its weeks while orders are laid one behind the other. */
    private static final class Bench {
        int week;
        int hoursLeft;

        /** False, and nothing is laid, if the order is not over in time or by right. */
        boolean lay(ShipOrder laid, Family family, Rights rights) {
            int toDo = laid.hoursLeftFor(family.number);
            boolean begun = false;
            for (int w = week; w <= laid.due; w++) {
                int has = w == week ? hoursLeft : family.hours[w];
                begun = begun || has > 0;
                if (begun && !rights.allow(family.number, laid.pattern, w)) {
                    return false;
                }
                if (toDo <= has) {
                    week = w;
                    hoursLeft = has - toDo;
                    return true;
                }
                toDo -= has;
            }
            return false;
        }
    }

    /**
     * Finds BEST. A set of open orders is a number with a bit for each, the bits in
     * the row in which a family works at them: so what a set needs is what the set
     * without its last order needs, and that order behind it.
     */
    private static final class Plan {
        int prices;
        int hours;
        final int[] familyOf = new int[ORDERS];
        final int[] overIn = new int[ORDERS];
        final int[] hoursNow = new int[ORDERS];

        private final int[] row = new int[ORDERS];
        private int open;
        private final Bench bench = new Bench();

        // Of each set, for the family that is looked at:
        private final boolean[] canBe = new boolean[ORDER_SETS];
        private final int[] endWeek = new int[ORDER_SETS];
        private final int[] endHoursLeft = new int[ORDER_SETS];
        private final int[] silver = new int[ORDER_SETS];
        private final long[] rank = new long[ORDER_SETS];

        // Of each set, shared among the families looked at so far:
        private final long[] bestRank = new long[ORDER_SETS];
        private final int[][] part = new int[FAMILIES][ORDER_SETS];

        void find(Family[] families, ShipOrder[] orders, int came, Rights rights, int week) {
            lineUp(orders, came);
            for (int set = 0; set < 1 << open; set++) {
                bestRank[set] = 0L;
            }
            for (int f = 0; f < FAMILIES; f++) {
                startAt(families[f], week);
                for (int last = 0; last < open; last++) {
                    addToSets(last, orders[row[last]], families[f], rights);
                }
                shareAlsoWith(f);
            }
            tellWay(families, orders, rights, week);
        }

        private void lineUp(ShipOrder[] orders, int came) {
            open = 0;
            for (int i = 0; i < came; i++) {
                if (orders[i].state == OPEN) {
                    int at = open;
                    while (at > 0 && orders[row[at - 1]].due > orders[i].due) {
                        row[at] = row[at - 1];
                        at--;
                    }
                    row[at] = i;
                    open++;
                }
            }
        }

        private void startAt(Family family, int week) {
            canBe[0] = true;
            endWeek[0] = week;
            endHoursLeft[0] = family.hours[week];
            silver[0] = 0;
            rank[0] = 0L;
        }

        private void addToSets(int last, ShipOrder added, Family family, Rights rights) {
            int bit = 1 << last;
            long gain = rankOf(added, family.number);
            for (int ahead = 0; ahead < bit; ahead++) {
                int set = ahead | bit;
                bench.week = endWeek[ahead];
                bench.hoursLeft = endHoursLeft[ahead];
                silver[set] = silver[ahead] + added.silver;
                // What can't be ahead can't be mended by what comes behind it.
                canBe[set] = canBe[ahead] && silver[set] <= family.silver
                    && bench.lay(added, family, rights);
                endWeek[set] = bench.week;
                endHoursLeft[set] = bench.hoursLeft;
                rank[set] = rank[ahead] + gain;
            }
        }

        private static long rankOf(ShipOrder given, int family) {
            return given.price * PRICE_UNIT
                - given.hoursLeftFor(family) * WORK_UNIT
                + (FAMILIES - family) * ORDER_UNITS[given.number];
        }

        private void shareAlsoWith(int f) {
            // Downwards: the smaller sets are still those of the families ahead.
            for (int set = (1 << open) - 1; set >= 0; set--) {
                long most = bestRank[set];
                int taken = 0;
                for (int sub = 1; sub <= set; sub++) {
                    if ((sub & set) == sub && canBe[sub] && rank[sub] + bestRank[set ^ sub] > most) {
                        most = rank[sub] + bestRank[set ^ sub];
                        taken = sub;
                    }
                }
                bestRank[set] = most;
                part[f][set] = taken;
            }
        }

        private void tellWay(Family[] families, ShipOrder[] orders, Rights rights, int week) {
            prices = 0;
            hours = 0;
            for (int i = 0; i < ORDERS; i++) {
                familyOf[i] = NONE;
                overIn[i] = NONE;
                hoursNow[i] = 0;
            }
            int set = (1 << open) - 1;
            for (int f = FAMILIES - 1; f >= 0; f--) {
                int taken = part[f][set];
                bench.week = week;
                bench.hoursLeft = families[f].hours[week];
                for (int n = 0; n < open; n++) {
                    if ((taken >> n & 1) == 1) {
                        tellOrder(orders[row[n]], families[f], rights, week);
                    }
                }
                set ^= taken;
            }
        }

        private void tellOrder(ShipOrder given, Family family, Rights rights, int week) {
            int toDo = given.hoursLeftFor(family.number);
            int leftNow = bench.week == week ? bench.hoursLeft : 0;
            if (bench.lay(given, family, rights)) {
                prices += given.price;
                hours += toDo;
                familyOf[given.number] = family.number;
                overIn[given.number] = bench.week;
                hoursNow[given.number] = Math.min(toDo, leftNow);
            }
        }
    }
}
