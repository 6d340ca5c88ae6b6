import java.util.Random;

/** All promises, held against the model on drawn texts, uses and calls; the draws are the same each time. */
public final class ModelTest {
    private static final Random DRAWN = new Random(20261116);
    private static final String[] PIECES = {"plan", "fee", "term", "from", "until", "for", "free", "to", "at", "rest",
        ";", "a", "b", "abcdefgh", "abcdefghi", "0", "1", "2", "3", "4", "5", "23", "24", "25", "9999", "10000", "20000",
        "20001", "999999", "1000000", "007", "x1", "1x", ".", "!", "A", "\n", "  ", "\0", "\u00ff"};

    public static void main(String[] args) {
        for (int k = 0; k < 6000; k++) {
            spoiltText(2 + draw(400) / (1 + draw(20)));
        }
        for (int k = 0; k < 3000; k++) {
            longText();
        }
        for (int k = 0; k < 1000; k++) {
            costsAndRows();
        }
        for (int k = 0; k < 200; k++) {
            manyMonths(k % 2 == 0);
        }
        for (int k = 0; k < 300; k++) {
            differences();
        }
        Check.finish();
    }

    private static int draw(int bound) {
        return DRAWN.nextInt(bound);
    }

    // --- texts

    private static String planText(int name, int mostUnits, int mostCents) {
        StringBuilder text = new StringBuilder("plan ");
        text.append((char) ('a' + name)).append("q".repeat(draw(8))).append(" fee ").append(draw(mostCents * 3));
        if (draw(2) == 0) {
            text.append(" term ").append(1 + draw(draw(2) == 0 ? 4 : 24));
        }
        if (draw(3) == 0) {
            int from = draw(24);
            text.append(" from ").append(from).append(" until ").append(from + draw(24 - from));
        }
        int service = draw(4);
        for (int k = draw(5); k > 0; k--) {
            text.append(" for ").append(service);
            service = (service + 1) % 4;
            if (draw(2) == 0) {
                text.append(" free ").append(draw(mostUnits));
            }
            int end = 0;
            for (int s = draw(4); s > 0; s--) {
                end += 1 + draw(mostUnits);
                text.append(" to ").append(end).append(" at ").append(draw(mostCents));
            }
            text.append(" rest ").append(draw(mostCents));
        }
        return text.append(draw(2) == 0 ? ";" : " ;\n").toString();
    }

    private static String plansText(int count, int mostUnits, int mostCents) {
        StringBuilder text = new StringBuilder();
        for (int k = 0; k < count; k++) {
            text.append(planText(k, mostUnits, mostCents));
        }
        return text.length() <= 800 ? text.toString() : plansText(count - 1, mostUnits, mostCents);
    }

    private static String cut(String text, int length) {
        return text.length() <= length ? text : text.substring(0, length);
    }

    private static void spoiltText(int pieces) {
        String text;
        if (draw(4) == 0) {
            StringBuilder mixed = new StringBuilder("plan a fee 5 ");
            for (int k = 0; k < pieces % 12; k++) {
                mixed.append(PIECES[draw(PIECES.length)]).append(draw(5) == 0 ? "" : " ");
            }
            text = mixed.toString();
        } else {
            text = plansText(1 + draw(12), 20, 20);
            for (int k = draw(3); k > 0; k--) {
                int at = draw(text.length() + 1);
                int to = Math.min(text.length(), at + draw(6));
                String put = draw(3) == 0 ? "" : PIECES[draw(PIECES.length)];
                text = text.substring(0, at) + put + text.substring(draw(2) == 0 ? at : to);
            }
        }
        holdText(cut(text, 840));
    }

    /** Around 800 bytes, with blanks put in where they do no harm. */
    private static void longText() {
        String text = plansText(3 + draw(9), 20, 20);
        int length = 790 + draw(51);
        while (text.length() < length) {
            int at = text.indexOf(' ', draw(text.length()));
            at = at < 0 || draw(9) == 0 ? text.length() : at;
            text = text.substring(0, at) + " ".repeat(1 + draw(Math.min(200, length - text.length())))
                    + text.substring(at);
        }
        text = cut(text, 840);
        if (draw(4) == 0) {
            text = cut(text, 780 + draw(20)) + plansText(1, 20, 20);
        }
        holdText(cut(text, 840));
    }

    private static void holdText(String text) {
        TariffDesk desk = new TariffDesk();
        Model model = new Model();
        int place = 0;
        int kind = 0;
        try {
            model.plans = model.read(text);
        } catch (Model.Fault fault) {
            place = fault.place;
            kind = fault.kind;
        }
        String told = "plans() of '" + text + "'";
        Check.due(told, Check.plans(desk, text), kind == 0 ? model.plans.size() : -1 - place);
        Check.due("fault() of '" + text + "'", desk.fault(), kind);
        Check.due("count(0)", desk.count(0), model.plans.size());
        for (int p = 0; p < model.plans.size(); p++) {
            holdPlan(desk, model.plans.get(p), p);
        }
    }

    private static void holdPlan(TariffDesk desk, Model.ModelPlan plan, int p) {
        Check.due("fee", desk.plan(p, 0), plan.fee);
        Check.due("term", desk.plan(p, 1), plan.term);
        Check.due("from", desk.plan(p, 2), plan.from);
        Check.due("until", desk.plan(p, 3), plan.until);
        int bits = 0;
        for (int service = 0; service < 4; service++) {
            bits |= plan.parts[service] == null ? 0 : 1 << service;
        }
        Check.due("PARTS", desk.plan(p, 4), bits);
        Check.due("name", desk.name(p), plan.name.length());
        for (int k = 0; k < plan.name.length(); k++) {
            Check.due("octet", desk.octet(k), plan.name.charAt(k));
        }
    }

    // --- uses, costs and rows

    private static void drawUses(TariffDesk desk, Model model, int mostUnits, int services) {
        for (int house = 0; house < 4; house++) {
            for (int service = 0; service < services; service++) {
                int[] units = new int[24];
                boolean seldom = draw(2) == 0;
                for (int month = 0; month < 24; month++) {
                    units[month] = seldom && draw(12) != 0 ? 0 : draw(mostUnits);
                    model.uses[house][service][month] = units[month];
                }
                Check.due("uses", Check.uses(desk, house, service, 0, units), 24);
            }
        }
    }

    private static void drawPlans(TariffDesk desk, Model model, int count, int mostUnits, int mostCents) {
        String text = plansText(count, mostUnits, mostCents);
        model.plans = model.read(text);
        Check.due("plans", Check.plans(desk, text), model.plans.size());
    }

    private static void drawSwitch(TariffDesk desk, Model model, int most) {
        model.switchCents = draw(2) == 0 ? 0 : draw(most);
        desk.change(model.switchCents);
    }

    /** Small numbers, so that many rows cost the same. */
    private static void costsAndRows() {
        TariffDesk desk = new TariffDesk();
        Model model = new Model();
        int small = 1 + draw(12);
        drawPlans(desk, model, 1 + draw(4), small, 1 + draw(6));
        drawUses(desk, model, small * 2, draw(5));
        drawSwitch(desk, model, 8);
        // No more: a desk has 512 calls.
        for (int k = 0; k < 6; k++) {
            int p = draw(model.plans.size());
            int houses = 1 + draw(15);
            int month = draw(24);
            holdCost(desk, model, p, houses, month);
            int from = draw(24);
            int to = Math.min(24, from + 1 + draw(6));
            int[] row = model.bestRow(houses, from, to);
            int[] before = rowOf(desk);
            Check.due("best", desk.best(houses, from, to), model.bestCents());
            if (row == null) {
                Check.due("row stays", java.util.Arrays.equals(rowOf(desk), before), true);
            } else {
                Check.dueRow(desk, from, row);
            }
        }
    }

    private static int[] rowOf(TariffDesk desk) {
        int[] row = new int[24];
        for (int month = 0; month < 24; month++) {
            row[month] = desk.had(month);
        }
        return row;
    }

    private static void holdCost(TariffDesk desk, Model model, int p, int houses, int month) {
        long all = model.cost(p, houses, month);
        for (int what = 0; what <= 5; what++) {
            int asked = what;
            if (all < 0) {
                Check.dueThrown("cost", () -> desk.cost(p, houses, month, asked));
                continue;
            }
            Model.ModelPart part = what < 2 ? null : model.plans.get(p).parts[what - 2];
            long want = part == null ? 0 : part.cost(model.units(houses, what - 2, month));
            want = what == 0 ? all : what == 1 ? model.plans.get(p).fee : want;
            Check.due("cost", desk.cost(p, houses, month, what), want);
        }
        int house = draw(4);
        long cents = draw(2000) - 1000;
        long due = model.cost(p, 1 << house, month);
        if (due < 0) {
            Check.dueThrown("bill", () -> desk.bill(p, house, month, cents));
        } else {
            Check.due("bill", desk.bill(p, house, month, cents), cents - due);
        }
    }

    /** Numbers are small in every other turn, so that many rows, and many groups, cost the same. */
    private static void manyMonths(boolean alike) {
        TariffDesk desk = new TariffDesk();
        Model model = new Model();
        drawPlans(desk, model, 1 + draw(10), alike ? 3 : 30, 1 + draw(alike ? 2 : 30));
        drawUses(desk, model, 1 + draw(alike ? 4 : 40), draw(4));
        drawSwitch(desk, model, alike ? 3 : 200);
        for (int k = 0; k < 5; k++) {
            int houses = 1 + draw(15);
            int from = draw(12);
            int to = from + 1 + draw(24 - from);
            Model.LongRow row = model.longBest(houses, from, to);
            Check.due("long best", desk.best(houses, from, to), row == null ? -1 : row.cents);
            if (row != null) {
                Check.dueRow(desk, from, row.plans);
            }
        }
        int[] row = rowOf(desk);
        long[] groups = model.bills();
        Check.due("bills", desk.bills(), groups == null ? -1 : groups[4]);
        for (int house = 0; house < 4; house++) {
            Check.due("group", desk.group(house), groups == null ? -1 : groups[house]);
        }
        Check.due("row stays", java.util.Arrays.equals(rowOf(desk), row), true);
    }

    private static void differences() {
        TariffDesk desk = new TariffDesk();
        Model model = new Model();
        int units = 1 + draw(60);
        drawPlans(desk, model, 2 + draw(4), units, 1 + draw(50));
        for (int k = 0; k < 8; k++) {
            int[] least = new int[4];
            int[] greatest = new int[4];
            for (int service = 0; service < 4; service++) {
                least[service] = draw(2) == 0 ? 0 : draw(units * 3);
                greatest[service] = draw(2) == 0 ? least[service] : least[service] + draw(units * 3);
                Check.due("span", desk.span(service, least[service], greatest[service]), true);
            }
            int p = draw(model.plans.size());
            int q = draw(model.plans.size());
            long[] want = model.above(p, q, least, greatest);
            if (want == null) {
                Check.dueThrown("above", () -> desk.above(p, q, false));
                Check.dueThrown("above", () -> desk.above(p, q, true));
            } else {
                Check.due("above at least", desk.above(p, q, false), want[0]);
                Check.due("above at most", desk.above(p, q, true), want[1]);
            }
        }
    }
}
