import java.util.ArrayList;
import java.util.Arrays;
import java.util.List;
import java.util.regex.Matcher;
import java.util.regex.Pattern;

/** The document said a second time, as slowly and plainly as it goes: every ROW, parting and number is tried. */
final class Model {
    static final class ModelPart {
        int free;
        final List<int[]> steps = new ArrayList<>();
        int rest;

        /** Unit by unit. */
        long cost(int units) {
            long sum = 0;
            for (int unit = free + 1; unit <= units; unit++) {
                sum += centsOfUnit(unit - free);
            }
            return sum;
        }

        private int centsOfUnit(int place) {
            for (int[] step : steps) {
                if (place <= step[0]) {
                    return step[1];
                }
            }
            return rest;
        }
    }

    static final class ModelPlan {
        String name;
        int fee;
        int term = 1;
        int from = 0;
        int until = 23;
        final ModelPart[] parts = new ModelPart[4];
    }

    static final class Fault extends RuntimeException {
        private static final long serialVersionUID = 1L;
        final int place;
        final int kind;

        Fault(int place, int kind) {
            this.place = place;
            this.kind = kind;
        }
    }

    private static final List<String> WORDS =
            List.of("plan", "fee", "term", "from", "until", "for", "free", "to", "at", "rest");

    List<ModelPlan> plans = new ArrayList<>();
    final int[][][] uses = new int[4][4][24];
    int switchCents;

    // --- the text, by going down its rules

    private String text;
    private int size;
    private List<String> tokens;
    private List<Integer> places;
    private int next;

    /** The PLANS of a text; throws its FAULT. */
    List<ModelPlan> read(String bytes) {
        text = bytes;
        size = bytes.length();
        tokens = new ArrayList<>();
        places = new ArrayList<>();
        next = 0;
        Matcher matcher = Pattern.compile("[a-z0-9]+|[^ \n]", Pattern.DOTALL).matcher(text);
        while (matcher.find()) {
            tokens.add(matcher.group());
            places.add(matcher.start());
        }
        List<ModelPlan> read = new ArrayList<>();
        do {
            read.add(readPlan(read));
        } while (!peek().isEmpty() || size > 800);
        return read;
    }

    private String peek() {
        return next < tokens.size() && place() < 800 ? tokens.get(next) : "";
    }

    private int place() {
        return next < tokens.size() && places.get(next) < 800 ? places.get(next) : Math.min(size, 800);
    }

    private Fault fault(int kind) {
        return new Fault(place(), kind);
    }

    private void word(String word) {
        if (!peek().equals(word)) {
            throw fault(1);
        }
        next++;
    }

    private int number(int least, int greatest) {
        if (!peek().matches("[0-9]{1,6}")) {
            throw fault(1);
        }
        int number = Integer.parseInt(peek());
        if (number < least || number > greatest) {
            throw fault(2);
        }
        next++;
        return number;
    }

    private ModelPlan readPlan(List<ModelPlan> ahead) {
        ModelPlan plan = new ModelPlan();
        if (peek().equals("plan") && ahead.size() == 10) {
            throw fault(4);
        }
        word("plan");
        if (!peek().matches("[a-z]{1,8}") || WORDS.contains(peek())) {
            throw fault(1);
        }
        plan.name = peek();
        for (ModelPlan other : ahead) {
            if (other.name.equals(plan.name)) {
                throw fault(3);
            }
        }
        next++;
        word("fee");
        plan.fee = number(0, 999999);
        if (peek().equals("term")) {
            word("term");
            plan.term = number(1, 24);
        }
        if (peek().equals("from")) {
            word("from");
            plan.from = number(0, 23);
            word("until");
            plan.until = number(plan.from, 23);
        }
        while (peek().equals("for")) {
            readPart(plan);
        }
        word(";");
        return plan;
    }

    private void readPart(ModelPlan plan) {
        word("for");
        int service = number(0, 3);
        if (plan.parts[service] != null) {
            next--;
            throw fault(3);
        }
        ModelPart part = new ModelPart();
        plan.parts[service] = part;
        if (peek().equals("free")) {
            word("free");
            part.free = number(0, 20000);
        }
        int last = 0;
        while (peek().equals("to")) {
            if (part.steps.size() == 3) {
                throw fault(4);
            }
            word("to");
            last = number(last + 1, 20000);
            word("at");
            part.steps.add(new int[] {last, number(0, 9999)});
        }
        word("rest");
        part.rest = number(0, 9999);
    }

    // --- COST

    /** COST of a MONTH; -1 if the PLAN can't be had. */
    long cost(int p, int houses, int month) {
        ModelPlan plan = plans.get(p);
        long sum = plan.fee;
        for (int service = 0; service < 4; service++) {
            int units = units(houses, service, month);
            if (plan.parts[service] != null) {
                sum += plan.parts[service].cost(units);
            } else if (units > 0) {
                return -1;
            }
        }
        return sum;
    }

    int units(int houses, int service, int month) {
        int units = 0;
        for (int house = 0; house < 4; house++) {
            units += (houses >> house & 1) * uses[house][service][month];
        }
        return units;
    }

    // --- BEST

    private long[][] costs;
    private long found;
    private int[] foundRow;

    /** The first cheapest ROW (its COST is in bestCents()), of all that there are; null: there is none. */
    int[] bestRow(int houses, int from, int to) {
        costs = new long[24][plans.size()];
        for (int month = from; month < to; month++) {
            for (int p = 0; p < plans.size(); p++) {
                costs[month][p] = cost(p, houses, month);
            }
        }
        found = -1;
        foundRow = null;
        tryRows(new int[to - from], 0, from);
        return foundRow;
    }

    long bestCents() {
        return found;
    }

    private void tryRows(int[] row, int length, int from) {
        if (length == row.length) {
            long cents = rowCents(row, from);
            if (cents >= 0 && (found < 0 || cents < found)) {
                found = cents;
                foundRow = row.clone();
            }
            return;
        }
        for (int p = 0; p < plans.size(); p++) {
            row[length] = p;
            tryRows(row, length + 1, from);
        }
    }

    /** -1: it is no ROW. */
    private long rowCents(int[] row, int from) {
        long sum = 0;
        int begun = 0;
        for (int k = 0; k < row.length; k++) {
            ModelPlan plan = plans.get(row[k]);
            boolean changes = k > 0 && row[k] != row[k - 1];
            if (changes && k - begun < plans.get(row[k - 1]).term) {
                return -1;
            }
            if (k == 0 || changes) {
                begun = k;
                if (from + k < plan.from || from + k > plan.until) {
                    return -1;
                }
            }
            if (costs[from + k][row[k]] < 0) {
                return -1;
            }
            sum += costs[from + k][row[k]] + (changes ? switchCents : 0);
        }
        return sum;
    }

    /** A ROW for many MONTHS, and what it costs. */
    static final class LongRow {
        final long cents;
        final int[] plans;

        LongRow(long cents, int[] plans) {
            this.cents = cents;
            this.plans = plans;
        }

        LongRow with(long more, int p) {
            int[] longer = Arrays.copyOf(plans, plans.length + 1);
            longer[plans.length] = p;
            return new LongRow(cents + more, longer);
        }

        boolean isAheadOf(LongRow other) {
            if (other == null || cents != other.cents) {
                return other == null || cents < other.cents;
            }
            return Arrays.compare(plans, other.plans) < 0;
        }
    }

    /**
     * BEST for many MONTHS, where not all rows can be tried: of those that end alike (in the same PLAN, which lasts as
     * long) the first is kept, MONTH by MONTH from the first one on. Null: there is none.
     */
    LongRow longBest(int houses, int from, int to) {
        LongRow[][] kept = new LongRow[plans.size()][25];
        for (int p = 0; p < plans.size(); p++) {
            long cents = cost(p, houses, from);
            if (cents >= 0 && plans.get(p).from <= from && from <= plans.get(p).until) {
                kept[p][1] = new LongRow(cents, new int[] {p});
            }
        }
        for (int month = from + 1; month < to; month++) {
            kept = goOn(kept, houses, month);
        }
        LongRow best = null;
        for (LongRow[] some : kept) {
            for (LongRow row : some) {
                best = row != null && row.isAheadOf(best) ? row : best;
            }
        }
        return best;
    }

    private LongRow[][] goOn(LongRow[][] kept, int houses, int month) {
        LongRow[][] next = new LongRow[plans.size()][25];
        for (int q = 0; q < plans.size(); q++) {
            ModelPlan plan = plans.get(q);
            long cents = cost(q, houses, month);
            boolean begins = plan.from <= month && month <= plan.until;
            for (int p = 0; cents >= 0 && p < plans.size(); p++) {
                for (int lasted = 1; lasted <= 24; lasted++) {
                    boolean may = q == p || begins && lasted >= plans.get(p).term;
                    if (kept[p][lasted] != null && may) {
                        int lasts = q == p ? lasted + 1 : 1;
                        LongRow row = kept[p][lasted].with(cents + (q == p ? 0 : switchCents), q);
                        next[q][lasts] = row.isAheadOf(next[q][lasts]) ? row : next[q][lasts];
                    }
                }
            }
        }
        return next;
    }

    // --- BILLS

    /** The groups of the four HOUSES, and behind them the cents; null: there are none. */
    long[] bills() {
        long[] bests = new long[16];
        for (int houses = 1; houses <= 15; houses++) {
            LongRow best = longBest(houses, 0, 24);
            bests[houses] = best == null ? -1 : best.cents;
        }
        long[] best = null;
        for (int code = 0; code < 256; code++) {
            long[] groups = groupsOf(code, bests);
            if (groups != null && (best == null || isAhead(groups, best))) {
                best = groups;
            }
        }
        return best;
    }

    /** Each HOUSE has a colour, and those of one colour are a group. */
    private static long[] groupsOf(int code, long[] bests) {
        long[] groups = new long[5];
        for (int colour = 0; colour < 4; colour++) {
            int group = 0;
            for (int house = 0; house < 4; house++) {
                group |= (code >> 2 * house & 3) == colour ? 1 << house : 0;
            }
            if (group != 0 && bests[group] < 0) {
                return null;
            }
            groups[4] += group == 0 ? 0 : bests[group];
            for (int house = 0; house < 4; house++) {
                groups[house] = (group >> house & 1) == 1 ? group : groups[house];
            }
        }
        return groups;
    }

    private static boolean isAhead(long[] one, long[] other) {
        if (one[4] != other[4]) {
            return one[4] < other[4];
        }
        for (int house = 0; house < 4; house++) {
            if (one[house] != other[house]) {
                return one[house] < other[house];
            }
        }
        return false;
    }

    // --- ABOVE

    /** The least and the greatest; null: it is not told. */
    long[] above(int p, int q, int[] least, int[] greatest) {
        long[] sums = {plans.get(p).fee - plans.get(q).fee, plans.get(p).fee - plans.get(q).fee};
        for (int service = 0; service < 4; service++) {
            ModelPart one = plans.get(p).parts[service];
            ModelPart other = plans.get(q).parts[service];
            if (greatest[service] == 0) {
                continue;
            }
            if (one == null || other == null) {
                return null;
            }
            long low = Long.MAX_VALUE;
            long high = Long.MIN_VALUE;
            for (int units = least[service]; units <= greatest[service]; units++) {
                long difference = one.cost(units) - other.cost(units);
                low = Math.min(low, difference);
                high = Math.max(high, difference);
            }
            sums[0] += low;
            sums[1] += high;
        }
        return sums;
    }
}
