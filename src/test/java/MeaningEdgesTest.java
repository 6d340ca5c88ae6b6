import java.util.Arrays;

/** What PLANS mean (COST, ROW, BEST, BILLS, ABOVE): a test for each sentence of the Terms that names an edge of it. */
public final class MeaningEdgesTest {
    private static final int NONE = TariffDesk.NONE;

    public static void main(String[] args) {
        Check.sentence("SERVICES 0 .. 3", MeaningEdgesTest::services);
        Check.sentence("MONTHS 0 .. 23", MeaningEdgesTest::months);
        Check.sentence("HOUSES 0 .. 3", MeaningEdgesTest::houses);
        Check.sentence("USE: whole units 0 to 20000 .. (0 at first)", MeaningEdgesTest::units);
        Check.sentence("SWITCH: cents for each change of PLANS (0 at first)", MeaningEdgesTest::switchAtFirst);
        Check.sentence("An object is used for at most 512 calls", MeaningEdgesTest::lastCall);
        costs();
        rows();
        groups();
        differences();
        Check.finish();
    }

    private static void costs() {
        Check.sentence("COST of x units by a PART: of those above the free ones", MeaningEdgesTest::freeOnes);
        Check.sentence("the first ones up to the first STEP's number at its cents", MeaningEdgesTest::firstStep);
        Check.sentence("from there to the second one's at its, ..", MeaningEdgesTest::nextSteps);
        Check.sentence("all others at rest's", MeaningEdgesTest::rest);
        Check.sentence("COST of a MONTH: its fee, and for each of its PARTS the COST", MeaningEdgesTest::feeAndParts);
        Check.sentence("of their USES together", MeaningEdgesTest::usesTogether);
        Check.sentence("A PLAN that has no PART for a SERVICE .. can't be had then", MeaningEdgesTest::cantBeHad);
    }

    private static void rows() {
        Check.sentence("A ROW of PLANS over MONTHS from .. to - 1", MeaningEdgesTest::endsOfRow);
        Check.sentence("one in each that can be had", MeaningEdgesTest::oneInEach);
        Check.sentence("a PLAN begins in the first of these MONTHS", MeaningEdgesTest::beginsFirst);
        Check.sentence("and wherever another one was ahead", MeaningEdgesTest::beginsBehindAnother);
        Check.sentence("in a MONTH in which it may begin", MeaningEdgesTest::mayBegin);
        Check.sentence("it lasts its term at least", MeaningEdgesTest::lastsTerm);
        Check.sentence("or up to the last one", MeaningEdgesTest::cutTerm);
        Check.sentence("Its COST: of all MONTHS, and SWITCH for each change", MeaningEdgesTest::rowCost);
        Check.sentence("BEST: the least COST", MeaningEdgesTest::leastCost);
        Check.sentence("of like ones the first (the lesser PLAN ..)", MeaningEdgesTest::likeRows);
    }

    private static void groups() {
        Check.sentence("BILLS: all four HOUSES are parted in groups", MeaningEdgesTest::everyParting);
        Check.sentence("each under one bill over all MONTHS", MeaningEdgesTest::billsOverAllMonths);
        Check.sentence("so that all BESTS together are least", MeaningEdgesTest::leastBills);
        Check.sentence("HOUSE 0 is in the group with the least bits", MeaningEdgesTest::leastGroup);
        Check.sentence("then the least HOUSE that is not yet in one, and so on", MeaningEdgesTest::nextGroups);
    }

    private static void differences() {
        Check.sentence("SPANS: .. (0 and 0 at first)", MeaningEdgesTest::spansAtFirst);
        Check.sentence("ABOVE: at least and at most", MeaningEdgesTest::bothEnds);
        Check.sentence("for all USES within the SPANS", MeaningEdgesTest::allWithin);
        Check.sentence("told, if both have PARTS for each SERVICE whose greatest is above 0", MeaningEdgesTest::toldIf);
        Check.sentence("A call that throws changes nothing.", MeaningEdgesTest::throwsChangeNothing);
    }

    private static int[] alike(int count, int value) {
        int[] row = new int[count];
        Arrays.fill(row, value);
        return row;
    }

    // --- the spans of the words

    private static void services() {
        TariffDesk desk = Check.deskWith("plan a fee 1 for 0 rest 1 for 1 rest 1 for 2 rest 1 for 3 rest 1;", 1);
        for (int service = 0; service <= 3; service++) {
            Check.due("uses", Check.uses(desk, 0, service, 0, service + 5), 1);
            Check.due("use", desk.use(0, service, 0), service + 5);
            Check.due("cost", desk.cost(0, 1, 0, service + 2), service + 5);
            Check.due("span", desk.span(service, 0, 1), true);
        }
        for (int service = -1; service <= 4; service += 5) {
            int what = service + 2;
            Check.due("uses", Check.uses(desk, 0, service, 0, 9), NONE);
            Check.due("use", desk.use(0, service, 0), NONE);
            Check.due("span", desk.span(service, 0, 1), false);
            if (what > 5) {
                Check.dueThrown("cost", () -> desk.cost(0, 1, 0, what));
            }
        }
    }

    private static void months() {
        TariffDesk desk = Check.deskWith("plan a fee 1 for 0 rest 1;", 1);
        for (int month = 0; month <= 23; month++) {
            Check.due("uses", Check.uses(desk, 0, 0, month, month + 5), 1);
            Check.due("use", desk.use(0, 0, month), month + 5);
            Check.due("cost", desk.cost(0, 1, month, 0), month + 6);
            Check.due("bill", desk.bill(0, 0, month, 0), -month - 6);
            Check.due("best", desk.best(1, month, month + 1), month + 6);
            Check.due("had", desk.had(month), 0);
        }
        for (int m = -1; m <= 24; m += 25) {
            int month = m;
            Check.due("uses", Check.uses(desk, 0, 0, month, 9), NONE);
            Check.due("use", desk.use(0, 0, month), NONE);
            Check.dueThrown("cost", () -> desk.cost(0, 1, month, 0));
            Check.dueThrown("bill", () -> desk.bill(0, 0, month, 0));
            Check.due("best", desk.best(1, month, month + 1), NONE);
            Check.due("had", desk.had(month), NONE);
        }
    }

    private static void houses() {
        TariffDesk desk = Check.deskWith("plan a fee 1 for 0 rest 1;", 1);
        for (int house = 0; house <= 3; house++) {
            Check.due("uses", Check.uses(desk, house, 0, 0, house + 5), 1);
            Check.due("use", desk.use(house, 0, 0), house + 5);
            Check.due("cost", desk.cost(0, 1 << house, 0, 0), house + 6);
            Check.due("bill", desk.bill(0, house, 0, 0), -house - 6);
            Check.due("best", desk.best(1 << house, 0, 1), house + 6);
        }
        Check.due("bills", desk.bills(), 24 + 5 + 6 + 7 + 8);
        Check.due("group(0)", desk.group(0), 15);
        Check.due("group(3)", desk.group(3), 15);
        for (int h = -1; h <= 4; h += 5) {
            int house = h;
            Check.due("uses", Check.uses(desk, house, 0, 0, 9), NONE);
            Check.due("use", desk.use(house, 0, 0), NONE);
            Check.dueThrown("bill", () -> desk.bill(0, house, 0, 0));
            Check.due("group", desk.group(house), NONE);
        }
        Check.dueThrown("cost of HOUSE 4", () -> desk.cost(0, 16, 0, 0));
        Check.due("best of HOUSE 4", desk.best(16, 0, 1), NONE);
    }

    private static void units() {
        TariffDesk desk = new TariffDesk();
        for (int k = 0; k < 16; k++) {
            for (int month = 0; month < 24; month += 23) {
                Check.due("at first", desk.use(k / 4, k % 4, month), 0);
            }
        }
        Check.due("greatest", Check.uses(desk, 0, 0, 0, 20000, 19999, 0, 1), 4);
        Check.due("20000", desk.use(0, 0, 0), 20000);
        Check.due("19999", desk.use(0, 0, 1), 19999);
        Check.due("0", desk.use(0, 0, 2), 0);
        Check.due("1", desk.use(0, 0, 3), 1);
        int[] above = {20001, 20255, 20480, 32767, 32768, 45536, 65535};
        for (int units : above) {
            Check.due(units + " units", Check.uses(desk, 0, 0, 0, units), NONE);
            Check.due("it stays", desk.use(0, 0, 0), 20000);
        }
    }

    private static void switchAtFirst() {
        TariffDesk desk = Check.deskWith("plan a fee 0 for 0 rest 5;plan b fee 1 for 0 rest 0;", 2);
        Check.uses(desk, 0, 0, 1, 1);
        Check.due("at first", desk.count(1), 0);
        Check.due("two changes at first", desk.best(1, 0, 3), 1);
        Check.dueRow(desk, 0, 0, 1, 0);
    }

    /** 512 calls, the dearest ones among them: the last one answers as the first one would. */
    private static void lastCall() {
        TariffDesk desk = new TariffDesk();
        desk.feed(0x706c616e, 0x20612066, 0x65652035, 0x20666f72, 0x20302072);
        desk.feed(0x65737420, 0x323b0000, 0, 0, 0);
        desk.end(26);
        Check.due("plans()", desk.plans(), 1);
        for (int call = 5; call <= 511; call += 3) {
            Check.due("bills() as call " + call, desk.bills(), 120);
            Check.due("best() as call " + (call + 1), desk.best(15, 0, 24), 120);
            Check.dueThrown("octet() as call " + (call + 2), () -> desk.octet(0));
        }
        // Here 511 calls are made.
        Check.due("the last call", desk.bills(), 120);
    }

    // --- COST

    private static void dueCents(String part, int[] units, long[] cents) {
        TariffDesk desk = Check.deskWith("plan a fee 0 for 0 " + part + ";", 1);
        for (int k = 0; k < units.length; k++) {
            Check.uses(desk, 0, 0, 0, units[k]);
            Check.due(units[k] + " units " + part, desk.cost(0, 1, 0, 0), cents[k]);
        }
    }

    private static void freeOnes() {
        dueCents("free 10 rest 3", new int[] {0, 1, 9, 10, 11, 12}, new long[] {0, 0, 0, 0, 3, 6});
        dueCents("free 10 to 2 at 5 rest 3", new int[] {9, 10, 11, 12, 13}, new long[] {0, 0, 5, 10, 13});
        dueCents("free 1 rest 9999", new int[] {0, 1, 2, 20000}, new long[] {0, 0, 9999, 19999L * 9999});
        dueCents("free 20000 to 1 at 1 rest 9", new int[] {0, 19999, 20000}, new long[] {0, 0, 0});
        dueCents("free 19999 to 1 at 7 rest 9", new int[] {19998, 19999, 20000}, new long[] {0, 0, 7});
    }

    private static void firstStep() {
        dueCents("to 5 at 7 rest 100", new int[] {0, 1, 4, 5, 6}, new long[] {0, 7, 28, 35, 135});
        dueCents("to 1 at 7 rest 100", new int[] {0, 1, 2}, new long[] {0, 7, 107});
        dueCents("to 20000 at 9999 rest 0", new int[] {19999, 20000}, new long[] {19999L * 9999, 20000L * 9999});
        // Its number counts from the free ones on.
        dueCents("free 3 to 5 at 7 rest 100", new int[] {3, 4, 5, 8, 9}, new long[] {0, 7, 14, 35, 135});
    }

    private static void nextSteps() {
        dueCents("to 5 at 1 to 7 at 10 rest 100", new int[] {4, 5, 6, 7, 8}, new long[] {4, 5, 15, 25, 125});
        dueCents("to 5 at 1 to 6 at 10 to 8 at 100 rest 1000", new int[] {5, 6, 7, 8, 9}, new long[] {5, 15, 115, 215, 1215});
        dueCents("to 1 at 0 to 2 at 9999 to 3 at 0 rest 1", new int[] {1, 2, 3, 4}, new long[] {0, 9999, 9999, 10000});
        dueCents("free 2 to 1 at 3 to 20000 at 5 rest 7", new int[] {2, 3, 4, 20000}, new long[] {0, 3, 8, 3 + 5 * 19997});
    }

    private static void rest() {
        dueCents("rest 4", new int[] {0, 1, 20000}, new long[] {0, 4, 80000});
        dueCents("rest 0", new int[] {0, 1, 20000}, new long[] {0, 0, 0});
        dueCents("to 1 at 0 to 2 at 0 to 3 at 0 rest 9999", new int[] {3, 4, 20000}, new long[] {0, 9999, 19997L * 9999});
    }

    private static void feeAndParts() {
        TariffDesk desk = Check.deskWith("plan a fee 7;plan b fee 0 for 1 rest 2;plan c fee 999999 for 0 free 1 rest 9 "
                + "for 1 rest 10 for 2 rest 100 for 3 rest 1000;", 3);
        Check.due("no USES, no PARTS", desk.cost(0, 1, 0, 0), 7);
        Check.due("no USES, no fee", desk.cost(1, 1, 0, 0), 0);
        Check.due("no USES", desk.cost(2, 1, 0, 0), 999999);
        for (int service = 0; service < 4; service++) {
            Check.uses(desk, 0, service, 0, 3);
        }
        Check.due("all PARTS", desk.cost(2, 1, 0, 0), 999999 + 18 + 30 + 300 + 3000);
    }

    private static void usesTogether() {
        TariffDesk desk = Check.deskWith("plan a fee 1 for 0 free 3 to 2 at 5 rest 100 for 1 rest 9999;", 1);
        Check.uses(desk, 0, 0, 0, 3);
        Check.uses(desk, 3, 0, 0, 3);
        Check.due("HOUSE 0", desk.cost(0, 1, 0, 0), 1);
        Check.due("HOUSE 3", desk.cost(0, 8, 0, 0), 1);
        Check.due("both", desk.cost(0, 9, 0, 0), 1 + 10 + 100);
        Check.due("with those without USE", desk.cost(0, 15, 0, 0), 1 + 10 + 100);
        Check.due("those without USE", desk.cost(0, 6, 0, 0), 1);
        for (int house = 0; house < 4; house++) {
            Check.uses(desk, house, 1, 23, 20000);
        }
        Check.due("four times the greatest", desk.cost(0, 15, 23, 3), 80000L * 9999);
    }

    private static void cantBeHad() {
        TariffDesk desk = Check.deskWith("plan a fee 5 for 0 rest 1 for 1 rest 1 for 2 rest 1;", 1);
        Check.due("no USE", desk.cost(0, 1, 6, 0), 5);
        Check.uses(desk, 0, 3, 6, 1);
        Check.dueThrown("one unit", () -> desk.cost(0, 1, 6, 0));
        Check.dueThrown("under one bill", () -> desk.cost(0, 15, 6, 0));
        Check.due("best", desk.best(1, 6, 7), NONE);
        Check.due("other HOUSES", desk.cost(0, 14, 6, 0), 5);
        Check.due("MONTH ahead", desk.cost(0, 1, 5, 0), 5);
        Check.due("MONTH behind", desk.cost(0, 1, 7, 0), 5);
        Check.due("bill of another HOUSE", desk.bill(0, 1, 6, 5), 0);
        Check.uses(desk, 0, 3, 6, 0);
        Check.due("0 units", desk.cost(0, 1, 6, 0), 5);
        // A PART that costs nothing is a PART.
        TariffDesk cheap = Check.deskWith("plan a fee 5 for 3 rest 0;", 1);
        Check.uses(cheap, 0, 3, 6, 1);
        Check.due("free PART", cheap.cost(0, 1, 6, 0), 5);
    }

    // --- ROW and BEST

    private static void endsOfRow() {
        TariffDesk desk = Check.deskWith("plan a fee 1 for 0 rest 1;", 1);
        Check.uses(desk, 0, 1, 4, 1);
        Check.uses(desk, 0, 1, 8, 1);
        Check.uses(desk, 0, 0, 5, 10, 20, 30);
        Check.due("from 5 to 8", desk.best(1, 5, 8), 63);
        Check.dueRow(desk, 5, 0, 0, 0);
        Check.due("MONTH 4 has none", desk.best(1, 4, 8), NONE);
        Check.due("MONTH 8 has none", desk.best(1, 5, 9), NONE);
        Check.due("one MONTH", desk.best(1, 7, 8), 31);
        Check.dueRow(desk, 7, 0);
        Check.due("up to the last MONTH", desk.best(1, 9, 24), 15);
        Check.dueRow(desk, 9, alike(15, 0));
    }

    private static void oneInEach() {
        TariffDesk desk = Check.deskWith("plan a fee 1 for 0 rest 0;plan b fee 50 for 1 rest 0;", 2);
        Check.uses(desk, 0, 0, 0, 1, 0, 1, 0);
        Check.uses(desk, 0, 1, 0, 0, 1, 0, 0);
        Check.due("b where a can't be had", desk.best(1, 0, 4), 53);
        Check.dueRow(desk, 0, 0, 1, 0, 0);
        Check.uses(desk, 0, 1, 2, 1);
        Check.due("none in one MONTH", desk.best(1, 0, 4), NONE);
        Check.due("up to it", desk.best(1, 0, 2), 51);
        Check.due("no PLANS", new TariffDesk().best(1, 0, 1), NONE);
        // A PLAN can't be kept over a MONTH in which it can't be had, even within its term.
        TariffDesk bound = Check.deskWith("plan a fee 1 term 2 for 0 rest 0;plan b fee 50 for 1 rest 0;", 2);
        Check.uses(bound, 0, 1, 1, 1);
        Check.due("its term is in the way", bound.best(1, 0, 2), 100);
        Check.dueRow(bound, 0, 1, 1);
    }

    private static void beginsFirst() {
        // c is had in MONTH 3 only by a ROW that began it ahead.
        TariffDesk desk = Check.deskWith("plan a fee 9;plan c fee 1 from 2 until 2;", 2);
        Check.due("in the first MONTH", desk.best(1, 2, 5), 3);
        Check.dueRow(desk, 2, 1, 1, 1);
        Check.due("not in another first MONTH", desk.best(1, 3, 5), 18);
        Check.dueRow(desk, 3, 0, 0);
        TariffDesk only = Check.deskWith("plan c fee 1 from 2 until 2;", 1);
        Check.due("MONTH 1", only.best(1, 1, 5), NONE);
        Check.due("MONTH 2", only.best(1, 2, 5), 3);
        Check.due("MONTH 3", only.best(1, 3, 5), NONE);
        // Also where the one MONTH is the last one.
        Check.due("MONTH 2 alone", only.best(1, 2, 3), 1);
        Check.due("MONTH 3 alone", only.best(1, 3, 4), NONE);
    }

    private static void beginsBehindAnother() {
        // It goes on without beginning anew, however long; left once, it begins anew.
        TariffDesk desk = Check.deskWith("plan a fee 1 from 0 until 0 for 0 rest 0;plan b fee 7 for 0 rest 0 for 1 rest 0;", 2);
        Check.due("it goes on", desk.best(1, 0, 24), 24);
        Check.dueRow(desk, 0, alike(24, 0));
        Check.uses(desk, 0, 1, 1, 1);
        Check.due("it can't begin again", desk.best(1, 0, 4), 1 + 21);
        Check.dueRow(desk, 0, 0, 1, 1, 1);
        // No second term for one that goes on.
        TariffDesk bound = Check.deskWith("plan a fee 1 term 2 for 0 rest 50;plan b fee 3 for 0 rest 0;", 2);
        Check.uses(bound, 0, 0, 3, 1);
        Check.due("three MONTHS of a", bound.best(1, 0, 4), 6);
        Check.dueRow(bound, 0, 0, 0, 0, 1);
        // A second term for one that begins again.
        TariffDesk again = Check.deskWith("plan a fee 1 term 2 for 0 rest 50;plan b fee 3 for 0 rest 0 for 1 rest 0;", 2);
        Check.uses(again, 0, 1, 2, 1);
        Check.uses(again, 0, 0, 4, 1);
        Check.due("two MONTHS of a and no third", again.best(1, 0, 5), 1 + 1 + 3 + 3 + 3);
        Check.dueRow(again, 0, 0, 0, 1, 1, 1);
    }

    private static void mayBegin() {
        TariffDesk desk = Check.deskWith("plan a fee 9;plan b fee 1 from 2 until 3;", 2);
        Check.due("not ahead of from", desk.best(1, 0, 2), 18);
        Check.dueRow(desk, 0, 0, 0);
        Check.due("in from", desk.best(1, 0, 3), 19);
        Check.dueRow(desk, 0, 0, 0, 1);
        Check.due("in until", desk.best(1, 3, 4), 1);
        Check.due("not behind until", desk.best(1, 4, 5), 9);
        TariffDesk late = Check.deskWith("plan a fee 9 term 3;plan b fee 1 from 2 until 3;", 2);
        Check.due("a's term ends in until", late.best(1, 0, 5), 27 + 2);
        Check.dueRow(late, 0, 0, 0, 0, 1, 1);
        TariffDesk later = Check.deskWith("plan a fee 9 term 4;plan b fee 1 from 2 until 3;", 2);
        Check.due("a's term ends behind until", later.best(1, 0, 5), 45);
        TariffDesk edges = Check.deskWith("plan a fee 9;plan b fee 1 from 23 until 23;plan c fee 2 from 0 until 0;", 3);
        Check.due("MONTHS 0 and 23", edges.best(1, 0, 24), 2 * 23 + 1);
        Check.due("MONTH 23", edges.best(1, 22, 24), 10);
        Check.dueRow(edges, 22, 0, 1);
    }

    private static void lastsTerm() {
        // b is worth it in MONTH 1 only, and binds for its term.
        for (int term = 1; term <= 22; term++) {
            TariffDesk desk = Check.deskWith("plan a fee 0 for 0 rest 1;plan b fee 10 term " + term + " for 0 rest 0;", 2);
            Check.uses(desk, 0, 0, 1, 5000);
            Check.due("term " + term, desk.best(1, 0, 24), 10 * term);
            int[] row = new int[24];
            Arrays.fill(row, 1, 1 + term, 1);
            // Of like ones the first begins as late as can be.
            Check.dueRow(desk, 0, row);
        }
        TariffDesk first = Check.deskWith("plan a fee 0 for 0 rest 1;plan b fee 10 term 3 for 0 rest 0;", 2);
        Check.uses(first, 0, 0, 0, 5000);
        Check.due("from the first MONTH on", first.best(1, 0, 24), 30);
    }

    private static void cutTerm() {
        for (int to = 2; to <= 24; to++) {
            TariffDesk desk = Check.deskWith("plan a fee 0 for 0 rest 1;plan b fee 10 term 24 for 0 rest 0;", 2);
            Check.uses(desk, 0, 0, 1, 5000);
            Check.due("to " + to, desk.best(1, 0, to), 10 * (to - 1));
            int[] row = alike(to, 1);
            row[0] = 0;
            Check.dueRow(desk, 0, row);
        }
        TariffDesk desk = Check.deskWith("plan a fee 1 term 24;", 1);
        Check.due("24 MONTHS", desk.best(1, 0, 24), 24);
        Check.due("the last one alone", desk.best(1, 23, 24), 1);
        Check.dueRow(desk, 23, 0);
        // MONTHS beyond the last one are not looked at.
        Check.uses(desk, 0, 0, 5, 1);
        Check.due("up to MONTH 4", desk.best(1, 0, 5), 5);
    }

    private static void rowCost() {
        TariffDesk desk = Check.deskWith("plan a fee 1 for 0 rest 0;plan b fee 2 for 1 rest 0;", 2);
        Check.uses(desk, 0, 0, 0, 1, 0, 1, 0);
        Check.uses(desk, 0, 1, 0, 0, 1, 0, 1);
        int[] cents = {0, 1, 100000};
        for (int change : cents) {
            desk.change(change);
            Check.due("no change", desk.best(1, 0, 1), 1);
            Check.due("one change", desk.best(1, 0, 2), 3 + change);
            Check.due("two changes", desk.best(1, 0, 3), 4 + 2L * change);
            Check.due("three changes", desk.best(1, 0, 4), 6 + 3L * change);
            Check.due("begun with b", desk.best(1, 1, 2), 2);
        }
        TariffDesk most = Check.deskWith("plan a fee 999999 for 0 rest 9999;plan b fee 999999 for 1 rest 9999;", 2);
        for (int month = 0; month < 24; month++) {
            Check.uses(most, 0, month % 2, month, 20000);
        }
        most.change(100000);
        Check.due("24 MONTHS, 23 changes", most.best(1, 0, 24), 24 * (999999 + 20000L * 9999) + 23 * 100000);
    }

    private static void leastCost() {
        TariffDesk desk = Check.deskWith("plan a fee 6;plan b fee 5;plan c fee 4 from 1 until 23;plan d fee 3 from 2 until 23;", 4);
        Check.due("free changes", desk.best(1, 0, 3), 5 + 4 + 3);
        Check.dueRow(desk, 0, 1, 2, 3);
        desk.change(1);
        Check.due("dear by one", desk.best(1, 0, 3), 14);
        desk.change(2);
        Check.due("dearer", desk.best(1, 0, 3), 15);
        desk.change(3);
        Check.due("kept", desk.best(1, 0, 3), 15);
        Check.dueRow(desk, 0, 1, 1, 1);
        // The cheapest first MONTH is not the cheapest ROW.
        TariffDesk bound = Check.deskWith("plan a fee 1 term 3 for 0 rest 9;plan b fee 2 for 0 rest 0;", 2);
        Check.uses(bound, 0, 0, 1, 1, 1);
        Check.due("dearer at first", bound.best(1, 0, 3), 6);
        Check.dueRow(bound, 0, 1, 1, 1);
        // Each of ten PLANS is cheaper than the one ahead and begins in a MONTH of its own.
        StringBuilder text = new StringBuilder();
        for (int p = 0; p < 10; p++) {
            text.append("plan ").append((char) ('a' + p)).append(" fee ").append(50 - p)
                    .append(" from ").append(p).append(" until ").append(p).append(";");
        }
        TariffDesk ten = Check.deskWith(text.toString(), 10);
        Check.due("ten PLANS", ten.best(1, 0, 10), 500 - 45);
        Check.dueRow(ten, 0, 0, 1, 2, 3, 4, 5, 6, 7, 8, 9);
        Check.due("the tenth one alone", ten.best(1, 9, 24), 15 * 41);
        Check.dueRow(ten, 9, alike(15, 9));
        TariffDesk nothing = Check.deskWith("plan a fee 0;", 1);
        Check.due("0 is a COST", nothing.best(1, 0, 24), 0);
        Check.dueRow(nothing, 0, alike(24, 0));
    }

    private static void likeRows() {
        TariffDesk two = Check.deskWith("plan a fee 5;plan b fee 5;", 2);
        Check.due("like PLANS", two.best(1, 0, 24), 120);
        Check.dueRow(two, 0, alike(24, 0));
        Check.due("like in one MONTH", two.best(1, 23, 24), 5);
        Check.dueRow(two, 23, 0);
        // 1 0 0 and 1 1 0 and 1 1 1 cost the same: the lesser PLAN in the first unlike MONTH.
        TariffDesk early = Check.deskWith("plan a fee 5 from 1 until 23;plan b fee 5;", 2);
        Check.due("back as soon as can be", early.best(1, 0, 3), 15);
        Check.dueRow(early, 0, 1, 0, 0);
        // 0 0 1, 0 1 1 and 1 1 1 cost the same: the greater PLAN comes as late as can be.
        TariffDesk late = Check.deskWith("plan a fee 5 for 0 rest 9;plan b fee 5 for 0 rest 0;", 2);
        Check.uses(late, 0, 0, 2, 1);
        Check.due("as late as can be", late.best(1, 0, 3), 15);
        Check.dueRow(late, 0, 0, 0, 1);
        // The lesser PLAN in MONTH 0 counts more than greater ones behind it: 0 2 2 is ahead of 1 1 1.
        TariffDesk first = Check.deskWith("plan a fee 1 for 0 rest 9;plan b fee 1 from 0 until 0 for 0 rest 0;"
                + "plan c fee 1 for 0 rest 0;", 3);
        Check.uses(first, 0, 0, 1, 1, 1);
        Check.due("the first MONTH decides", first.best(1, 0, 3), 3);
        Check.dueRow(first, 0, 0, 2, 2);
        // A change that is paid and one that is not may cost the same.
        TariffDesk paid = Check.deskWith("plan a fee 4 from 1 until 1;plan b fee 5;", 2);
        paid.change(2);
        Check.due("paid back", paid.best(1, 0, 3), 15);
        Check.dueRow(paid, 0, 1, 0, 0);
        // A lesser PLAN that would last into a dear MONTH is none of the like ones.
        TariffDesk bound = Check.deskWith("plan a fee 5 term 2 for 0 rest 9;plan b fee 5 for 0 rest 0;", 2);
        Check.uses(bound, 0, 0, 1, 1);
        Check.due("a would last", bound.best(1, 0, 3), 15);
        Check.dueRow(bound, 0, 1, 1, 0);
        TariffDesk ten = Check.deskWith(Check.manyPlans(10), 10);
        Check.due("ten like ones", ten.best(15, 0, 24), 120);
        Check.dueRow(ten, 0, alike(24, 0));
    }

    // --- BILLS

    /** HOUSES of one group share a SERVICE; those of two have PLANS that can't be had together. */
    private static TariffDesk deskForGroups(int[] servicesOfHouses) {
        TariffDesk desk = Check.deskWith("plan a fee 1 for 0 rest 0;plan b fee 1 for 1 rest 0;plan c fee 1 for 2 rest 0;"
                + "plan d fee 1 for 3 rest 0;", 4);
        for (int house = 0; house < 4; house++) {
            Check.uses(desk, house, servicesOfHouses[house], 0, 1);
        }
        return desk;
    }

    /** All fifteen partings, each as the only cheapest one. */
    private static void everyParting() {
        int partings = 0;
        for (int code = 0; code < 256; code++) {
            int[] service = {code & 3, code >> 2 & 3, code >> 4 & 3, code >> 6 & 3};
            int most = -1;
            boolean isFirst = true;
            for (int house = 0; house < 4; house++) {
                isFirst &= service[house] <= most + 1;
                most = Math.max(most, service[house]);
            }
            if (isFirst) {
                partings++;
                TariffDesk desk = deskForGroups(service);
                int[] groups = new int[4];
                for (int house = 0; house < 4; house++) {
                    for (int other = 0; other < 4; other++) {
                        groups[house] |= service[other] == service[house] ? 1 << other : 0;
                    }
                }
                Check.due("a fee for each group", desk.bills(), 24 * (most + 1));
                Check.dueGroups(desk, groups);
            }
        }
        Check.due("partings", partings, 15);
    }

    private static void billsOverAllMonths() {
        for (int month = 0; month < 24; month++) {
            TariffDesk desk = Check.deskWith("plan a fee 1 for 0 free 1 rest 9999;", 1);
            Check.uses(desk, 0, 0, month, 1);
            Check.uses(desk, 3, 0, month, 1);
            Check.due("MONTH " + month, desk.bills(), 48);
            Check.dueGroups(desk, 1, 14, 14, 14);
        }
        for (int month = 0; month < 24; month++) {
            TariffDesk desk = Check.deskWith("plan a fee 1 for 0 rest 1;", 1);
            Check.uses(desk, 2, 1, month, 1);
            Check.due("none in MONTH " + month, desk.bills(), NONE);
        }
        // The same groups in all MONTHS, though others would be cheaper in each.
        TariffDesk desk = Check.deskWith("plan a fee 10 for 0 free 1 rest 1000;", 1);
        Check.uses(desk, 0, 0, 0, 1, 0, 0);
        Check.uses(desk, 1, 0, 0, 1, 1, 0);
        Check.uses(desk, 2, 0, 0, 0, 1, 0);
        Check.due("two groups", desk.bills(), 480);
        Check.dueGroups(desk, 5, 10, 5, 10);
    }

    private static void leastBills() {
        // Apart, units are free four times; together, the fee is paid once.
        TariffDesk desk = Check.deskWith("plan a fee 2 for 0 free 1 rest 47;", 1);
        for (int house = 0; house < 4; house++) {
            Check.uses(desk, house, 0, 0, 1);
        }
        Check.due("together is cheaper by one each", desk.bills(), 48 + 3 * 47);
        Check.dueGroups(desk, 15, 15, 15, 15);
        Check.due("PLANS", Check.plans(desk, "plan a fee 2 for 0 free 1 rest 49;"), 1);
        Check.due("apart is cheaper by one each", desk.bills(), 4 * 48);
        Check.dueGroups(desk, 1, 2, 4, 8);
        // SWITCH and terms count as in BEST: one bill has one change.
        TariffDesk changes = Check.deskWith("plan a fee 0 for 0 rest 0;plan b fee 0 for 1 rest 0;", 2);
        for (int house = 0; house < 4; house++) {
            Check.uses(changes, house, 0, 0, 1, 0);
            Check.uses(changes, house, 1, 0, 0, 1);
        }
        changes.change(3);
        Check.due("one change", changes.bills(), 3);
        Check.dueGroups(changes, 15, 15, 15, 15);
        changes.change(0);
        Check.due("0 is a sum", changes.bills(), 0);
        Check.dueGroups(changes, 1, 2, 4, 8);
        TariffDesk most = Check.deskWith("plan a fee 999999 for 0 rest 9999 for 1 rest 9999 for 2 rest 9999 for 3 rest 9999;", 1);
        for (int k = 0; k < 16; k++) {
            Check.uses(most, k / 4, k % 4, 0, alike(24, 20000));
        }
        Check.due("the greatest sum", most.bills(), 24 * (999999 + 16 * 20000L * 9999));
    }

    private static void leastGroup() {
        TariffDesk apart = Check.deskWith("plan a fee 0 for 0 rest 1;", 1);
        for (int house = 0; house < 4; house++) {
            Check.uses(apart, house, 0, 0, 1);
        }
        Check.due("all partings are like", apart.bills(), 4);
        Check.due("group(0)", apart.group(0), 1);
        // 3 and 12, 5 and 10, 9 and 6 are like, 1 and 14 is not.
        TariffDesk pairs = Check.deskWith("plan a fee 1 for 0 free 2 rest 1000;", 1);
        for (int house = 0; house < 4; house++) {
            Check.uses(pairs, house, 0, 0, 1);
        }
        Check.due("pairs", pairs.bills(), 48);
        Check.dueGroups(pairs, 3, 3, 12, 12);
        // HOUSES 0 and 1 never fit: 5 and 10, 9 and 6 are left.
        Check.uses(pairs, 0, 1, 0, 0);
        Check.due("PLANS", Check.plans(pairs, "plan a fee 1 for 0 free 2 rest 1000 for 1 free 1 rest 1000;"), 1);
        Check.uses(pairs, 0, 1, 0, 1);
        Check.uses(pairs, 1, 1, 0, 1);
        Check.due("other pairs", pairs.bills(), 48);
        Check.dueGroups(pairs, 5, 10, 5, 10);
        // 7 and 8 is ahead of 9 and 6, as bits are a number.
        TariffDesk three = Check.deskWith("plan a fee 1 for 0 free 2 rest 1000;", 1);
        Check.uses(three, 1, 0, 0, 1);
        Check.uses(three, 2, 0, 0, 1);
        Check.uses(three, 3, 0, 0, 2);
        Check.uses(three, 1, 0, 1, 1);
        Check.uses(three, 2, 0, 1, 1);
        Check.uses(three, 3, 0, 1, 2);
        Check.due("7 or 9", three.bills(), 48);
        Check.dueGroups(three, 7, 7, 7, 8);
    }

    private static void nextGroups() {
        // HOUSE 0 alone: 2 4 8, 2 12, 6 8, 10 4 and 14 are like.
        TariffDesk alone = Check.deskWith("plan a fee 0 for 0 rest 1 for 1 rest 1;", 1);
        Check.uses(alone, 1, 0, 0, 1);
        Check.due("all are like", alone.bills(), 1);
        Check.dueGroups(alone, 1, 2, 4, 8);
        // Two groups, HOUSE 0 is alone in one: the three others are left.
        TariffDesk desk = Check.deskWith("plan a fee 1 for 0 free 2 rest 1000;", 1);
        Check.uses(desk, 0, 0, 0, 2);
        Check.uses(desk, 1, 0, 0, 1);
        Check.uses(desk, 2, 0, 0, 1);
        Check.due("two groups", desk.bills(), 48);
        Check.dueGroups(desk, 1, 14, 14, 14);
        // Three groups, HOUSE 0 alone: 6 8 and 10 4 are like, and 2 12 too: the least is 2.
        Check.uses(desk, 1, 0, 0, 2);
        Check.uses(desk, 2, 0, 0, 2);
        Check.due("three groups", desk.bills(), 72);
        Check.dueGroups(desk, 1, 2, 12, 12);
        // HOUSE 2 fits to HOUSE 1 alone.
        TariffDesk bound = Check.deskWith("plan a fee 1 for 0 free 2 rest 1000 for 1 free 1 rest 1000;", 1);
        Check.uses(bound, 0, 0, 0, 2);
        Check.uses(bound, 1, 0, 0, 2);
        Check.uses(bound, 3, 0, 0, 2);
        Check.uses(bound, 0, 1, 0, 1);
        Check.uses(bound, 2, 1, 0, 1);
        Check.uses(bound, 3, 1, 0, 1);
        Check.due("three groups", bound.bills(), 72);
        Check.dueGroups(bound, 1, 6, 6, 8);
    }

    // --- SPANS and ABOVE

    private static void spansAtFirst() {
        TariffDesk desk = Check.deskWith("plan a fee 7;plan b fee 9 for 0 rest 5 for 1 rest 5 for 2 rest 5 for 3 rest 5;", 2);
        Check.due("at least", desk.above(1, 0, false), 2);
        Check.due("at most", desk.above(1, 0, true), 2);
        Check.due("b above itself", desk.above(1, 1, true), 0);
    }

    private static void dueAbove(TariffDesk desk, long least, long greatest) {
        Check.due("0 above 1 at least", desk.above(0, 1, false), least);
        Check.due("0 above 1 at most", desk.above(0, 1, true), greatest);
        Check.due("1 above 0 at least", desk.above(1, 0, false), -greatest);
        Check.due("1 above 0 at most", desk.above(1, 0, true), -least);
    }

    private static void bothEnds() {
        TariffDesk desk = Check.deskWith("plan a fee 0 for 0 rest 9999 for 1 rest 0;plan b fee 999999 for 0 rest 0 for 1 rest 9999;", 2);
        dueAbove(desk, -999999, -999999);
        desk.span(0, 0, 20000);
        dueAbove(desk, -999999, -999999 + 20000L * 9999);
        desk.span(1, 0, 20000);
        dueAbove(desk, -999999 - 20000L * 9999, -999999 + 20000L * 9999);
        desk.span(1, 20000, 20000);
        dueAbove(desk, -999999 - 20000L * 9999, -999999);
        Check.due("of itself", desk.above(0, 0, true), 0);
        Check.due("of itself", desk.above(1, 1, false), 0);
    }

    /** The difference goes up, down, up and down: 0 at 2, -8 at 10, 82 at 20, 72 at 30, and then up again. */
    private static void allWithin() {
        TariffDesk desk = Check.deskWith("plan a fee 0 for 0 free 2 to 8 at 0 to 18 at 10 to 28 at 0 rest 3;"
                + "plan b fee 0 for 0 free 2 rest 1;", 2);
        long[] cents = new long[41];
        for (int unit = 3; unit <= 40; unit++) {
            cents[unit] = cents[unit - 1] - 1 + (unit <= 10 ? 0 : unit <= 20 ? 10 : unit <= 30 ? 0 : 3);
        }
        int asked = 0;
        for (int least = 0; least <= 40; least++) {
            for (int greatest = Math.max(1, least); greatest <= 40; greatest += asked % 3 + 1) {
                if (asked % 80 == 0) {
                    desk = Check.deskWith("plan a fee 0 for 0 free 2 to 8 at 0 to 18 at 10 to 28 at 0 rest 3;"
                            + "plan b fee 0 for 0 free 2 rest 1;", 2);
                }
                asked++;
                desk.span(0, least, greatest);
                long[] within = Arrays.copyOfRange(cents, least, greatest + 1);
                dueAbove(desk, Arrays.stream(within).min().getAsLong(), Arrays.stream(within).max().getAsLong());
            }
        }
        Check.due("a corner within", cents[20], 82);
        // Turns where free units end, of the one PLAN and of the other.
        TariffDesk free = Check.deskWith("plan a fee 0 for 0 rest 5;plan b fee 0 for 0 free 20 rest 10;", 2);
        int[][] spans = {{0, 100}, {0, 20}, {19, 21}, {20, 20}, {20, 100}, {0, 19}, {21, 22}};
        long[][] want = {{-300, 100}, {0, 100}, {95, 100}, {100, 100}, {-300, 100}, {0, 95}, {90, 95}};
        for (int k = 0; k < spans.length; k++) {
            free.span(0, spans[k][0], spans[k][1]);
            dueAbove(free, want[k][0], want[k][1]);
        }
    }

    private static void toldIf() {
        for (int service = 0; service < 4; service++) {
            TariffDesk desk = Check.deskWith("plan a fee 1 for " + service + " rest 1;plan b fee 1;", 2);
            Check.due("greatest 0", desk.above(0, 1, true), 0);
            Check.due("a has it", desk.above(0, 0, true), 0);
            desk.span(service, 0, 1);
            Check.dueThrown("b has none", () -> desk.above(0, 1, true));
            Check.dueThrown("b has none", () -> desk.above(1, 0, false));
            Check.dueThrown("b has none, twice", () -> desk.above(1, 1, false));
            Check.due("a has it", desk.above(0, 0, true), 0);
            desk.span(service, 0, 0);
            Check.due("greatest 0 again", desk.above(1, 0, true), 0);
            desk.span((service + 1) % 4, 1, 1);
            Check.dueThrown("neither has it", () -> desk.above(0, 0, true));
        }
    }

    // --- what throws

    private static TariffDesk fullDesk() {
        TariffDesk desk = Check.deskWith("plan abc fee 3 for 0 rest 2;plan d fee 4 for 0 rest 1;", 2);
        Check.uses(desk, 0, 0, 0, 5, 1);
        Check.uses(desk, 1, 1, 2, 1);
        desk.change(1);
        desk.span(0, 1, 4);
        desk.name(0);
        desk.best(1, 0, 2);
        Check.feed(desk, "xyz");
        return desk;
    }

    private static long[] stateOf(TariffDesk desk) {
        long[] state = {desk.count(0), desk.count(1), desk.count(2), desk.count(3), desk.fault(), desk.octet(0), desk.octet(2),
            desk.had(0), desk.had(1), desk.had(2), desk.group(0), desk.group(3), desk.use(0, 0, 0), desk.use(0, 0, 1),
            desk.use(1, 1, 2), desk.plan(0, 0), desk.plan(1, 4), desk.above(0, 1, false), desk.above(0, 1, true),
            desk.cost(0, 1, 0, 0), desk.cost(1, 1, 1, 0), desk.bill(0, 0, 0, 0)};
        return state;
    }

    private static void throwsChangeNothing() {
        TariffDesk desk = fullDesk();
        long[] before = stateOf(desk);
        Check.Call[] calls = {() -> desk.plan(2, 0), () -> desk.plan(-1, 0), () -> desk.plan(0, 5), () -> desk.octet(3),
            () -> desk.octet(-1), () -> desk.cost(2, 1, 0, 0), () -> desk.cost(0, 0, 0, 0), () -> desk.cost(0, 16, 0, 0),
            () -> desk.cost(0, 1, 24, 0), () -> desk.cost(0, 1, 0, 6), () -> desk.cost(0, 2, 2, 0),
            () -> desk.bill(2, 0, 0, 0), () -> desk.bill(0, 4, 0, 0), () -> desk.bill(0, 0, 24, 0),
            () -> desk.bill(0, 1, 2, 0), () -> desk.above(0, 2, true), () -> desk.above(-1, 0, true)};
        for (int k = 0; k < calls.length; k++) {
            Check.dueThrown("call " + k, calls[k]);
            Check.due("nothing changes by call " + k, Arrays.equals(stateOf(desk), before), true);
        }
        Check.due("the tape is as it was", desk.uses(0, 0, 0), NONE);
        TariffDesk bare = fullDesk();
        bare.span(2, 0, 1);
        Check.dueThrown("above that is not told", () -> bare.above(0, 1, true));
        bare.span(2, 0, 0);
        Check.due("nothing changes", Arrays.equals(stateOf(bare), before), true);
    }
}
