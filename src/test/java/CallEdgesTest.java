import java.util.Arrays;

/** The calls, promises 1 to 20: a test for each sentence that names an edge, a refused call or what stays. */
public final class CallEdgesTest {
    private static final int NONE = TariffDesk.NONE;
    private static final int[] FAR = {Integer.MIN_VALUE, Integer.MIN_VALUE + 1, -1 << 30, -256, -2, -1, 256, 1 << 16, 1 << 30,
        Integer.MAX_VALUE - 1, Integer.MAX_VALUE};

    public static void main(String[] args) {
        Check.sentence("1: No PLANS, USES 0, SWITCH 0, SPANS 0; an empty tape, OUT", CallEdgesTest::newObject);
        tape();
        text();
        uses();
        costs();
        rowsAndGroups();
        differences();
        Check.finish();
    }

    private static void tape() {
        Check.sentence("2: Twenty bytes come behind the tape, of each number the highest first", CallEdgesTest::fedBytes);
        Check.sentence("2: how many it has", CallEdgesTest::fedCount);
        Check.sentence("2: NONE, and none come, if it would have more than 840", CallEdgesTest::fullTape);
        Check.sentence("3: The tape has its first n bytes alone: true", CallEdgesTest::firstBytes);
        Check.sentence("3: false, if it has not so many", CallEdgesTest::notSoMany);
        Check.sentence("3: or n is below 0", CallEdgesTest::belowNothing);
    }

    private static void text() {
        Check.sentence("4: The tape are the PLANS now: how many", CallEdgesTest::plansNow);
        Check.sentence("4: (empty then, here and below)", CallEdgesTest::emptyThen);
        Check.sentence("4: -1 less the place of its FAULT", CallEdgesTest::faultPlace);
        Check.sentence("4: they stay", CallEdgesTest::plansStay);
        Check.sentence("5: The kind of the FAULT of the latest plans()", CallEdgesTest::latestKind);
        Check.sentence("5: 0 without one and ahead of any", CallEdgesTest::noKind);
        Check.sentence("6: 0 its fee, 1 its term, 2, 3 from and until, 4 its PARTS", CallEdgesTest::planNumbers);
        Check.sentence("6: NoSuchElementException: no PLAN", CallEdgesTest::noPlan);
        Check.sentence("6: or another what", CallEdgesTest::planWhat);
        Check.sentence("7: The NAME of PLAN p is OUT: how many bytes", CallEdgesTest::nameOut);
        Check.sentence("7: NONE (OUT stays): there is none", CallEdgesTest::outStays);
        Check.sentence("8: Byte k of OUT. NoSuchElementException: there is none such", CallEdgesTest::octets);
    }

    private static void uses() {
        Check.sentence("9: two bytes of the tape for each, the higher one first", CallEdgesTest::twoBytes);
        Check.sentence("9: from a MONTH on: how many MONTHS", CallEdgesTest::howManyMonths);
        Check.sentence("9: NONE, and none comes: no such ones", CallEdgesTest::usesOfNoSuch);
        Check.sentence("9: an odd number of bytes", CallEdgesTest::oddBytes);
        Check.sentence("9: beyond MONTH 23", CallEdgesTest::beyondLastMonth);
        Check.sentence("9: or above 20000", CallEdgesTest::aboveMostUnits);
        Check.sentence("10: USE; NONE: no such ones", CallEdgesTest::useOfNoSuch);
        Check.sentence("11: SWITCH is so many cents (0 to 100000): true", CallEdgesTest::changeHolds);
        Check.sentence("11: false, if it is not as told", CallEdgesTest::changeRefused);
    }

    private static void costs() {
        Check.sentence("12: HOUSES (bits, 1 to 15)", CallEdgesTest::costHouses);
        Check.sentence("12: 0 all, 1 the fee, 2 to 5 the PART of SERVICE what - 2", CallEdgesTest::costWhats);
        Check.sentence("12: (0 without one)", CallEdgesTest::costWithoutPart);
        Check.sentence("12: NoSuchElementException: no such ones", CallEdgesTest::costOfNoSuch);
        Check.sentence("12: another what", CallEdgesTest::costWhat);
        Check.sentence("12: or the PLAN can't be had then", CallEdgesTest::costCantBeHad);
        Check.sentence("13: how many cents it is above the COST (below: less than 0)", CallEdgesTest::billAboveAndBelow);
        Check.sentence("13: NoSuchElementException as cost()", CallEdgesTest::billOfNoSuch);
    }

    private static void rowsAndGroups() {
        Check.sentence("14: (0 <= from < to <= 24)", CallEdgesTest::bestMonths);
        Check.sentence("14: NONE (the ROW of the one ahead stays): there is none", CallEdgesTest::noBest);
        Check.sentence("14: or they are not as told", CallEdgesTest::bestNotAsTold);
        Check.sentence("15: The PLAN in a MONTH of the latest best() that was not NONE", CallEdgesTest::latestRow);
        Check.sentence("15: NONE: none then", CallEdgesTest::noneThen);
        Check.sentence("15: or ahead of any (also behind plans() that told how many)", CallEdgesTest::rowForgotten);
        Check.sentence("16: BILLS: all BESTS together", CallEdgesTest::billsTold);
        Check.sentence("16: NONE (what was told stays): there are none", CallEdgesTest::noBills);
        Check.sentence("16: (What had() tells stays, too.)", CallEdgesTest::rowStaysBehindBills);
        Check.sentence("17: The group of a HOUSE by the latest bills() that was not NONE", CallEdgesTest::latestGroups);
        Check.sentence("17: NONE: no such HOUSE", CallEdgesTest::noSuchHouse);
        Check.sentence("17: or ahead of any (also behind plans() that told how many)", CallEdgesTest::groupsForgotten);
    }

    private static void differences() {
        Check.sentence("18: SPAN of a SERVICE: true", CallEdgesTest::spanHolds);
        Check.sentence("18: false, and it stays: no such one", CallEdgesTest::spanOfNoSuch);
        Check.sentence("18: or not 0 <= least <= greatest <= 20000", CallEdgesTest::spanRefused);
        Check.sentence("19: at least (greatest false) or at most", CallEdgesTest::leastAndMost);
        Check.sentence("19: NoSuchElementException: no PLANS", CallEdgesTest::aboveOfNoSuch);
        Check.sentence("19: or it is not told", CallEdgesTest::aboveNotTold);
        Check.sentence("20: 0 PLANS, 1 SWITCH, 2 bytes of the tape, 3 of OUT", CallEdgesTest::counts);
        Check.sentence("20: NONE for another what", CallEdgesTest::countWhat);
    }

    /** FAR and the numbers named here: none of them is as told. */
    private static int[] wrong(int... near) {
        int[] all = Arrays.copyOf(near, near.length + FAR.length);
        System.arraycopy(FAR, 0, all, near.length, FAR.length);
        return all;
    }

    private static void dueUses(TariffDesk desk, int house, int service, int month, int... units) {
        for (int k = 0; k < units.length; k++) {
            Check.due("use(" + house + ", " + service + ", " + (month + k) + ")", desk.use(house, service, month + k), units[k]);
        }
    }

    private static void dueOut(TariffDesk desk, String want) {
        Check.due("count(3)", desk.count(3), want.length());
        for (int k = 0; k < want.length(); k++) {
            Check.due("octet(" + k + ")", desk.octet(k), want.charAt(k));
        }
        Check.dueThrown("octet(" + want.length() + ")", () -> desk.octet(want.length()));
    }

    // --- 1 a new object

    private static void newObject() {
        TariffDesk desk = new TariffDesk();
        for (int what = 0; what <= 3; what++) {
            Check.due("count(" + what + ")", desk.count(what), 0);
        }
        for (int k = 0; k < 384; k++) {
            Check.due("use", desk.use(k / 96, k / 24 % 4, k % 24), 0);
        }
        Check.dueThrown("plan(0, 0)", () -> desk.plan(0, 0));
        Check.due("name(0)", desk.name(0), NONE);
        Check.dueThrown("octet(0)", () -> desk.octet(0));
        Check.due("best", desk.best(15, 0, 24), NONE);
        Check.due("uses of the empty tape", desk.uses(0, 0, 0), 0);
        TariffDesk spans = Check.deskWith("plan a fee 7;plan b fee 9;", 2);
        Check.due("SPANS that need no PART", spans.above(1, 0, true), 2);
        // A second object knows nothing of the first one.
        spans.change(5);
        spans.name(0);
        spans.span(0, 1, 1);
        Check.uses(spans, 0, 0, 0, 1);
        spans.feed(1, 1, 1, 1, 1);
        TariffDesk other = new TariffDesk();
        for (int what = 0; what <= 3; what++) {
            Check.due("other count(" + what + ")", other.count(what), 0);
        }
        Check.due("other use", other.use(0, 0, 0), 0);
        Check.due("other plans", Check.plans(other, "plan a fee 7;plan b fee 9;"), 2);
        Check.due("other SPANS", other.above(0, 1, false), -2);
    }

    // --- 2 feed, 3 end

    private static void fedBytes() {
        TariffDesk desk = new TariffDesk();
        desk.feed(0x01020304, 0x05060708, 0x090a0b0c, 0x0d0e0f10, 0x11121314);
        desk.uses(0, 0, 0);
        dueUses(desk, 0, 0, 0, 0x0102, 0x0304, 0x0506, 0x0708, 0x090a, 0x0b0c, 0x0d0e, 0x0f10, 0x1112, 0x1314, 0);
        // Bytes above 127 in every place of a number.
        desk.feed(0x00800180, 0x008100ff, 0x0fff00fe, 0x00f04e20, 0x00c84e1f);
        desk.uses(0, 0, 0);
        dueUses(desk, 0, 0, 0, 128, 384, 129, 255, 4095, 254, 240, 20000, 200, 19999, 0);
        desk.feed(0xffffffff, 0, 0, 0, 0);
        Check.due("65535 units", desk.uses(0, 0, 0), NONE);
        // Behind what is there.
        desk.feed(0x00010002, 0x00030004, 0x00050006, 0x00070008, 0x0009000a);
        desk.feed(0x000b000c, 0x000d000e, 0x000f0010, 0x00110012, 0x00130014);
        Check.due("uses", desk.uses(1, 1, 4), 20);
        dueUses(desk, 1, 1, 3, 0, 1, 2, 3, 4, 5, 6, 7, 8, 9, 10, 11, 12, 13, 14, 15, 16, 17, 18, 19, 20);
        desk.feed(Integer.MIN_VALUE, Integer.MAX_VALUE, 0, -1, 0);
        Check.due("plans() of no text", desk.plans(), -1);
        Check.due("fault()", desk.fault(), 1);
    }

    private static void fedCount() {
        TariffDesk desk = new TariffDesk();
        Check.due("first", desk.feed(0, 0, 0, 0, 0), 20);
        Check.due("second", desk.feed(0, 0, 0, 0, 0), 40);
        desk.end(1);
        Check.due("behind one byte", desk.feed(0, 0, 0, 0, 0), 21);
        desk.end(0);
        Check.due("behind none", desk.feed(0, 0, 0, 0, 0), 20);
    }

    /** Fed up to 840 and beyond; what was refused must not be seen in the text. */
    private static void fullTape() {
        TariffDesk desk = new TariffDesk();
        for (int k = 1; k <= 42; k++) {
            Check.due("feed " + k, desk.feed(0x20202020, 0x20202020, 0x20202020, 0x20202020, 0x20202020), 20 * k);
        }
        for (int k = 0; k < 3; k++) {
            Check.due("full", desk.feed(-1, -1, -1, -1, -1), NONE);
            Check.due("none come", desk.count(2), 840);
        }
        for (int has = 821; has <= 839; has++) {
            Check.due("end(839)", desk.end(839 - (has - 821)), true);
            Check.due("too full", desk.feed(-1, -1, -1, -1, -1), NONE);
            Check.due("none come", desk.count(2), 839 - (has - 821));
        }
        Check.due("end(820)", desk.end(820), true);
        Check.due("just full", desk.feed(0x20202020, 0x20202020, 0x20202020, 0x20202020, 0x20202020), 840);
        Check.due("full", desk.feed(-1, -1, -1, -1, -1), NONE);
        Check.due("all blanks", desk.plans(), -801);
        TariffDesk units = new TariffDesk();
        for (int k = 1; k <= 42; k++) {
            units.feed(0x00010001, 0x00010001, 0x00010001, 0x00010001, 0x00010001);
        }
        Check.due("full", units.feed(0x00020002, 0x00020002, 0x00020002, 0x00020002, 0x00020002), NONE);
        units.end(4);
        Check.due("uses", units.uses(0, 0, 0), 2);
        dueUses(units, 0, 0, 0, 1, 1, 0);
    }

    private static void firstBytes() {
        TariffDesk desk = new TariffDesk();
        Check.due("end(0) of an empty tape", desk.end(0), true);
        desk.feed(0x00010002, 0x00030004, 0x00050006, 0x00070008, 0x0009000a);
        Check.due("all", desk.end(20), true);
        Check.due("count(2)", desk.count(2), 20);
        Check.due("all but one", desk.end(19), true);
        Check.due("count(2)", desk.count(2), 19);
        Check.due("four", desk.end(4), true);
        Check.due("four again", desk.end(4), true);
        Check.due("count(2)", desk.count(2), 4);
        Check.due("uses", desk.uses(0, 0, 0), 2);
        dueUses(desk, 0, 0, 0, 1, 2, 0);
        desk.feed(0, 0, 0, 0, 0);
        Check.due("none of them", desk.end(0), true);
        Check.due("count(2)", desk.count(2), 0);
        for (int k = 0; k < 42; k++) {
            desk.feed(0, 0, 0, 0, 0);
        }
        Check.due("all of a full tape", desk.end(840), true);
        Check.due("count(2)", desk.count(2), 840);
    }

    private static void notSoMany() {
        TariffDesk desk = new TariffDesk();
        Check.due("end(1) of an empty tape", desk.end(1), false);
        desk.feed(0, 0, 0, 0, 0);
        int[] wrong = {21, 22, 40, 840, 841, 1 << 16, 1 << 30, Integer.MAX_VALUE};
        for (int n : wrong) {
            Check.due("end(" + n + ")", desk.end(n), false);
            Check.due("tape stays", desk.count(2), 20);
        }
        desk.end(7);
        // What was cut does not come back.
        Check.due("end(8)", desk.end(8), false);
        Check.due("end(20)", desk.end(20), false);
        Check.due("tape stays", desk.count(2), 7);
        for (int k = 0; k < 41; k++) {
            desk.feed(0, 0, 0, 0, 0);
        }
        Check.due("end(828)", desk.end(828), false);
        Check.due("end(841)", desk.end(841), false);
        Check.due("tape stays", desk.count(2), 827);
    }

    private static void belowNothing() {
        TariffDesk desk = new TariffDesk();
        int[] wrong = {-1, -2, -20, -1 << 30, Integer.MIN_VALUE + 1, Integer.MIN_VALUE};
        for (int n : wrong) {
            Check.due("end(" + n + ") of an empty tape", desk.end(n), false);
            Check.due("tape stays", desk.count(2), 0);
        }
        desk.feed(0, 0, 0, 0, 0);
        for (int n : wrong) {
            Check.due("end(" + n + ")", desk.end(n), false);
            Check.due("tape stays", desk.count(2), 20);
        }
    }

    // --- 4 plans, 5 fault

    private static void plansNow() {
        TariffDesk desk = new TariffDesk();
        for (int plans = 10; plans >= 1; plans--) {
            Check.due("plans()", Check.plans(desk, Check.manyPlans(plans)), plans);
            Check.due("count(0)", desk.count(0), plans);
            int behind = plans;
            Check.due("the last one", desk.plan(plans - 1, 0), 5);
            Check.dueThrown("behind it", () -> desk.plan(behind, 0));
        }
        // What the earlier ones had is gone: fee, term, from, until, PARTS, free, STEPS.
        Check.uses(desk, 0, 0, 0, 20);
        for (int early = 1; early <= 3; early++) {
            for (int k = 0; k < early; k++) {
                Check.plans(desk, "plan a fee 9 term 9 from 9 until 9 for 0 free 9 to 9 at 9 rest 9 for 1 rest 9;");
            }
            for (int k = 0; k < 3; k++) {
                Check.plans(desk, "plan b fee 1 for 0 rest 2;");
                int[] want = {1, 1, 0, 23, 1};
                for (int what = 0; what < 5; what++) {
                    Check.due("plan(0, " + what + ")", desk.plan(0, what), want[what]);
                }
                Check.due("PART", desk.cost(0, 1, 0, 2), 40);
            }
        }
        // USES, SWITCH, SPANS and OUT are none of the PLANS.
        desk.change(3);
        desk.span(0, 1, 1);
        desk.name(0);
        Check.plans(desk, "plan xyz fee 1 for 0 rest 4;plan c fee 1 for 0 rest 1;");
        Check.due("USE stays", desk.use(0, 0, 0), 20);
        Check.due("SWITCH stays", desk.count(1), 3);
        Check.due("SPAN stays", desk.above(0, 1, true), 3);
        dueOut(desk, "b");
    }

    private static void emptyThen() {
        TariffDesk desk = new TariffDesk();
        Check.plans(desk, "plan a fee 5;");
        Check.due("behind PLANS", desk.count(2), 0);
        Check.due("end(1)", desk.end(1), false);
        Check.plans(desk, "plan a fee !");
        Check.due("behind a FAULT", desk.count(2), 0);
        Check.plans(desk, Check.blanks(840));
        Check.due("behind a FAULT at 800", desk.count(2), 0);
        Check.due("plans() of nothing", desk.plans(), -1);
        Check.due("behind nothing", desk.count(2), 0);
        Check.uses(desk, 0, 0, 0, 1, 2);
        Check.due("behind uses()", desk.count(2), 0);
        Check.uses(desk, 4, 0, 0, 1);
        Check.due("behind uses() of no such ones", desk.count(2), 0);
        Check.uses(desk, 0, 0, 23, 1, 2);
        Check.due("behind uses() beyond MONTH 23", desk.count(2), 0);
        Check.uses(desk, 0, 0, 0, 20001);
        Check.due("behind uses() above 20000", desk.count(2), 0);
        Check.feed(desk, "abc");
        desk.uses(0, 0, 0);
        Check.due("behind uses() of odd bytes", desk.count(2), 0);
        Check.due("feed", desk.feed(0, 0, 0, 0, 0), 20);
    }

    private static void faultPlace() {
        TariffDesk desk = new TariffDesk();
        Check.due("place 0, no bytes", Check.plans(desk, ""), -1);
        Check.due("place 0", Check.plans(desk, "fee"), -1);
        Check.due("place 1", Check.plans(desk, " fee"), -2);
        Check.due("place 799", Check.plans(desk, Check.blanks(799) + "fee"), -800);
        Check.due("place 800", Check.plans(desk, Check.blanks(800) + "fee"), -801);
        Check.due("place 800 of 840", Check.plans(desk, Check.blanks(840)), -801);
    }

    private static void plansStay() {
        String[] texts = {"", "plan", "plan c fee 1;plan d fee 2 term 0;", "plan c fee 1;plan c fee 2;", Check.manyPlans(11),
            "plan c fee 1 term 3 from 2 until 4 for 0 free 1 to 2 at 3 rest 4 for 0", Check.blanks(840)};
        for (String text : texts) {
            TariffDesk desk = Check.deskWith("plan abc fee 5 for 0 free 3 to 5 at 7 rest 9;plan b fee 6 term 2;", 2);
            Check.uses(desk, 0, 0, 0, 10);
            desk.best(2, 0, 2);
            Check.due("bills()", desk.bills(), 24 * 5 + 5 * 7 + 2 * 9);
            Check.due("a FAULT", Check.plans(desk, text) < 0, true);
            Check.due("count(0)", desk.count(0), 2);
            int[] want = {5, 1, 0, 23, 1};
            for (int what = 0; what < 5; what++) {
                Check.due("plan(0, " + what + ")", desk.plan(0, what), want[what]);
            }
            Check.due("plan(1, 1)", desk.plan(1, 1), 2);
            Check.due("PART", desk.cost(0, 1, 0, 2), 5 * 7 + 2 * 9);
            Check.due("name(0)", desk.name(0), 3);
            dueOut(desk, "abc");
            Check.dueRow(desk, 0, 0, 0);
            Check.dueGroups(desk, 15, 15, 15, 15);
            // The next text is read as if there had been no FAULT.
            Check.due("the next text", Check.plans(desk, "plan c fee 1;plan d fee 2;"), 2);
            Check.due("its fee", desk.plan(1, 0), 2);
        }
    }

    private static void latestKind() {
        TariffDesk desk = new TariffDesk();
        String[] texts = {"fee", "plan a fee 5 term 0;", "plan a fee 5;plan a fee 5;", Check.manyPlans(11)};
        for (int first = 1; first <= 4; first++) {
            for (int second = 1; second <= 4; second++) {
                Check.plans(desk, texts[first - 1]);
                Check.due("fault()", desk.fault(), first);
                Check.plans(desk, texts[second - 1]);
                Check.due("fault()", desk.fault(), second);
                Check.due("fault() again", desk.fault(), second);
            }
        }
        // Other calls that refuse have no FAULT of their own.
        desk.uses(4, 4, 4);
        desk.end(-1);
        desk.name(99);
        Check.due("fault()", desk.fault(), 4);
    }

    private static void noKind() {
        TariffDesk desk = new TariffDesk();
        Check.due("ahead of any", desk.fault(), 0);
        desk.feed(0, 0, 0, 0, 0);
        Check.due("ahead of any, with a tape", desk.fault(), 0);
        desk.uses(9, 9, 9);
        Check.due("behind uses()", desk.fault(), 0);
        Check.plans(desk, "plan a fee 5;");
        Check.due("without one", desk.fault(), 0);
        for (String text : new String[] {"fee", "plan a fee 5 term 0;", "plan a fee 5;plan a fee 5;", Check.manyPlans(11)}) {
            Check.plans(desk, text);
            Check.plans(desk, "plan a fee 5;");
            Check.due("without one, behind one", desk.fault(), 0);
        }
    }

    // --- 6 plan, 7 name, 8 octet

    private static void planNumbers() {
        TariffDesk desk = Check.deskWith("plan a fee 0;plan b fee 999999 term 24 from 23 until 23 for 3 rest 0 for 0 rest 0;"
                + "plan c fee 1 term 1 from 0 until 0 for 0 rest 1 for 1 rest 1 for 2 rest 1 for 3 rest 1;", 3);
        int[][] want = {{0, 1, 0, 23, 0}, {999999, 24, 23, 23, 9}, {1, 1, 0, 0, 15}};
        for (int p = 0; p < 3; p++) {
            for (int what = 0; what < 5; what++) {
                Check.due("plan(" + p + ", " + what + ")", desk.plan(p, what), want[p][what]);
            }
        }
    }

    private static void noPlan() {
        TariffDesk none = new TariffDesk();
        TariffDesk one = Check.deskWith("plan a fee 5;", 1);
        TariffDesk ten = Check.deskWith(Check.manyPlans(10), 10);
        Check.due("the last of ten", ten.plan(9, 0), 5);
        for (int what = 0; what < 5; what++) {
            int asked = what;
            Check.dueThrown("plan(0) of none", () -> none.plan(0, asked));
            Check.dueThrown("plan(1) of one", () -> one.plan(1, asked));
            for (int p : wrong(10, 11)) {
                Check.dueThrown("plan(" + p + ") of ten", () -> ten.plan(p, asked));
            }
        }
        Check.plans(ten, "plan a fee 5;");
        for (int p = 1; p < 10; p++) {
            int asked = p;
            Check.dueThrown("plan(" + p + ") that was there", () -> ten.plan(asked, 0));
        }
    }

    private static void planWhat() {
        TariffDesk desk = Check.deskWith("plan a fee 5;", 1);
        for (int what : wrong(5, 6, 7, 8)) {
            Check.dueThrown("plan(0, " + what + ")", () -> desk.plan(0, what));
        }
    }

    private static void nameOut() {
        TariffDesk desk = Check.deskWith("plan a fee 5;plan zyxwvuts fee 5;plan planplan fee 5;plan zz fee 5;", 4);
        String[] names = {"a", "zyxwvuts", "planplan", "zz"};
        int[] order = {1, 0, 2, 3, 0, 0, 1};
        for (int p : order) {
            Check.due("name(" + p + ")", desk.name(p), names[p].length());
            dueOut(desk, names[p]);
        }
    }

    private static void outStays() {
        TariffDesk none = new TariffDesk();
        Check.due("name(0) of none", none.name(0), NONE);
        dueOut(none, "");
        TariffDesk desk = Check.deskWith("plan a fee 5;plan bcd fee 5;", 2);
        desk.name(1);
        for (int p : wrong(2, 3, 9, 10)) {
            Check.due("name(" + p + ")", desk.name(p), NONE);
            dueOut(desk, "bcd");
        }
        Check.plans(desk, "plan x fee 5;");
        Check.due("name(1) that was there", desk.name(1), NONE);
        dueOut(desk, "bcd");
    }

    private static void octets() {
        TariffDesk desk = new TariffDesk();
        for (int k : wrong(0, 1, 7, 8)) {
            Check.dueThrown("octet(" + k + ") of an empty OUT", () -> desk.octet(k));
        }
        Check.plans(desk, "plan abcdefgh fee 5;plan z fee 5;");
        desk.name(0);
        Check.due("the first of eight", desk.octet(0), 'a');
        Check.due("the last of eight", desk.octet(7), 'h');
        for (int k : wrong(8, 9)) {
            Check.dueThrown("octet(" + k + ") of eight", () -> desk.octet(k));
        }
        desk.name(1);
        Check.due("the only one", desk.octet(0), 'z');
        for (int k : wrong(1, 7, 8)) {
            Check.dueThrown("octet(" + k + ") of one", () -> desk.octet(k));
        }
    }

    // --- 9 uses, 10 use, 11 change

    private static void twoBytes() {
        TariffDesk desk = new TariffDesk();
        Check.feed(desk, "\1\2\0\u00ff\u004e\u0020\1\0");
        Check.due("uses", desk.uses(0, 0, 0), 4);
        dueUses(desk, 0, 0, 0, 258, 255, 20000, 256, 0);
    }

    private static void howManyMonths() {
        TariffDesk desk = new TariffDesk();
        Check.due("none", desk.uses(0, 0, 0), 0);
        Check.due("none from the last MONTH on", desk.uses(3, 3, 23), 0);
        Check.due("one", Check.uses(desk, 0, 0, 0, 7), 1);
        Check.due("24", Check.uses(desk, 1, 2, 0, 1, 2, 3, 4, 5, 6, 7, 8, 9, 10, 11, 12, 13, 14, 15, 16, 17, 18, 19, 20, 21,
                22, 23, 24), 24);
        dueUses(desk, 1, 2, 0, 1, 2, 3, 4, 5, 6, 7, 8, 9, 10, 11, 12, 13, 14, 15, 16, 17, 18, 19, 20, 21, 22, 23, 24);
        Check.due("up to the last MONTH", Check.uses(desk, 1, 2, 22, 50, 51), 2);
        dueUses(desk, 1, 2, 20, 21, 22, 50, 51);
        Check.due("the last MONTH", Check.uses(desk, 1, 2, 23, 60), 1);
        dueUses(desk, 1, 2, 20, 21, 22, 50, 60);
        // No other HOUSE or SERVICE has got any.
        dueUses(desk, 1, 3, 0, 0, 0);
        dueUses(desk, 1, 1, 22, 0, 0);
        dueUses(desk, 2, 2, 0, 0, 0);
        dueUses(desk, 0, 2, 22, 0, 0);
        Check.due("none put none", desk.uses(1, 2, 22), 0);
        dueUses(desk, 1, 2, 22, 50, 60);
    }

    /** A desk with 5 in the first and last MONTHS of each HOUSE and SERVICE. */
    private static TariffDesk deskOfFives() {
        TariffDesk desk = new TariffDesk();
        for (int k = 0; k < 16; k++) {
            Check.uses(desk, k / 4, k % 4, 0, 5, 5);
            Check.uses(desk, k / 4, k % 4, 22, 5, 5);
        }
        return desk;
    }

    private static void dueFives(TariffDesk desk) {
        for (int k = 0; k < 16; k++) {
            dueUses(desk, k / 4, k % 4, 0, 5, 5, 0);
            dueUses(desk, k / 4, k % 4, 21, 0, 5, 5);
        }
    }

    private static void dueRefused(int house, int service, int month, int... units) {
        TariffDesk desk = deskOfFives();
        Check.due("uses(" + house + ", " + service + ", " + month + ")", Check.uses(desk, house, service, month, units), NONE);
        dueFives(desk);
    }

    private static void usesOfNoSuch() {
        for (int wrong : wrong(4, 5)) {
            dueRefused(wrong, 0, 0, 1);
            dueRefused(0, wrong, 0, 1);
        }
        for (int wrong : wrong(24, 25)) {
            dueRefused(0, 0, wrong, 1);
            // Also where no byte is there to come.
            dueRefused(0, 0, wrong);
        }
        dueRefused(4, 0, 0);
        dueRefused(0, 4, 0);
        dueRefused(-1, 0, 0);
        dueRefused(0, -1, 0);
        // Numbers that would meet another place if they were but added up.
        dueRefused(1, -1, 0, 1);
        dueRefused(0, 1, -1, 1);
        dueRefused(-1, 4, 0, 1);
        dueRefused(0, 0, 24, 1);
    }

    private static void oddBytes() {
        String[] odd = {"\0", "\0\0\0", "\0".repeat(47), "\0".repeat(49), "\0".repeat(839)};
        for (String bytes : odd) {
            TariffDesk desk = deskOfFives();
            Check.feed(desk, bytes);
            Check.due(bytes.length() + " bytes", desk.uses(0, 0, 0), NONE);
            dueFives(desk);
        }
    }

    private static void beyondLastMonth() {
        dueRefused(0, 0, 23, 1, 1);
        dueRefused(0, 0, 22, 1, 1, 1);
        dueRefused(0, 0, 1, new int[24]);
        dueRefused(0, 0, 0, new int[25]);
        dueRefused(3, 3, 0, new int[25]);
        dueRefused(0, 0, 0, new int[420]);
        TariffDesk desk = new TariffDesk();
        for (int month = 0; month < 24; month++) {
            Check.due("just up to it", Check.uses(desk, 0, 0, month, new int[24 - month]), 24 - month);
            Check.due("one beyond", Check.uses(desk, 0, 0, month, new int[25 - month]), NONE);
        }
    }

    private static void aboveMostUnits() {
        int[] above = {20001, 20002, 20223, 20480, 32767, 32768, 65535};
        for (int units : above) {
            dueRefused(0, 0, 0, units);
            dueRefused(0, 0, 0, 1, units);
            dueRefused(0, 0, 0, units, 1);
            dueRefused(3, 3, 22, 1, units);
        }
        TariffDesk desk = new TariffDesk();
        Check.due("the greatest", Check.uses(desk, 3, 3, 22, 20000, 20000), 2);
        dueUses(desk, 3, 3, 22, 20000, 20000);
        // What stands on the tape behind its end is not looked at.
        desk.feed(0x00014e21, 0x4e214e21, 0, 0, 0);
        desk.end(2);
        Check.due("one unit", desk.uses(0, 0, 0), 1);
    }

    private static void useOfNoSuch() {
        TariffDesk desk = deskOfFives();
        dueFives(desk);
        for (int wrong : wrong(4, 5)) {
            Check.due("HOUSE " + wrong, desk.use(wrong, 0, 0), NONE);
            Check.due("SERVICE " + wrong, desk.use(0, wrong, 0), NONE);
        }
        for (int wrong : wrong(24, 25)) {
            Check.due("MONTH " + wrong, desk.use(0, 0, wrong), NONE);
        }
        Check.due("use(1, -1, 0)", desk.use(1, -1, 0), NONE);
        Check.due("use(0, 1, -1)", desk.use(0, 1, -1), NONE);
        Check.due("use(3, 3, 24)", desk.use(3, 3, 24), NONE);
        Check.due("use(-1, 4, 0)", desk.use(-1, 4, 0), NONE);
    }

    private static void changeHolds() {
        TariffDesk desk = new TariffDesk();
        int[] right = {0, 1, 99999, 100000, 0};
        for (int cents : right) {
            Check.due("change(" + cents + ")", desk.change(cents), true);
            Check.due("count(1)", desk.count(1), cents);
        }
    }

    private static void changeRefused() {
        TariffDesk desk = new TariffDesk();
        desk.change(77);
        int[] wrong = {-1, -2, 100001, 100002, 1 << 17, 1 << 30, Integer.MAX_VALUE, Integer.MIN_VALUE, Integer.MIN_VALUE + 1};
        for (int cents : wrong) {
            Check.due("change(" + cents + ")", desk.change(cents), false);
            Check.due("count(1)", desk.count(1), 77);
        }
    }

    // --- 12 cost, 13 bill

    private static void costHouses() {
        TariffDesk desk = Check.deskWith("plan a fee 0 for 0 rest 1;", 1);
        for (int house = 0; house < 4; house++) {
            Check.uses(desk, house, 0, 0, 1 << house);
        }
        for (int houses = 1; houses <= 15; houses++) {
            Check.due("cost of " + houses, desk.cost(0, houses, 0, 0), houses);
        }
        for (int houses : wrong(0, 16, 17, 31, 32)) {
            for (int what = 0; what <= 5; what++) {
                int asked = what;
                Check.dueThrown("cost of " + houses, () -> desk.cost(0, houses, 0, asked));
            }
        }
    }

    private static void costWhats() {
        TariffDesk desk = Check.deskWith("plan a fee 7 for 0 rest 10 for 1 rest 100 for 2 rest 1000 for 3 rest 9999;", 1);
        for (int service = 0; service < 4; service++) {
            Check.uses(desk, 0, service, 23, service + 1);
        }
        long[] want = {7 + 10 + 200 + 3000 + 39996, 7, 10, 200, 3000, 39996};
        for (int what = 0; what <= 5; what++) {
            Check.due("what " + what, desk.cost(0, 1, 23, what), want[what]);
        }
    }

    private static void costWithoutPart() {
        TariffDesk desk = Check.deskWith("plan a fee 7 for 1 rest 5;plan b fee 8;", 2);
        Check.uses(desk, 0, 1, 0, 3);
        long[] want = {22, 7, 0, 15, 0, 0};
        for (int what = 0; what <= 5; what++) {
            Check.due("what " + what, desk.cost(0, 1, 0, what), want[what]);
            Check.due("what " + what + " without PARTS", desk.cost(1, 1, 1, what), what < 2 ? 8 : 0);
        }
    }

    private static void costOfNoSuch() {
        TariffDesk desk = Check.deskWith("plan a fee 7;plan b fee 8;", 2);
        Check.due("the last PLAN, HOUSES and MONTH", desk.cost(1, 15, 23, 0), 8);
        for (int p : wrong(2, 3, 9, 10)) {
            Check.dueThrown("PLAN " + p, () -> desk.cost(p, 1, 0, 0));
        }
        for (int month : wrong(24, 25)) {
            Check.dueThrown("MONTH " + month, () -> desk.cost(0, 1, month, 0));
        }
        for (int what = 0; what <= 5; what++) {
            int asked = what;
            Check.dueThrown("PLAN 2", () -> desk.cost(2, 1, 0, asked));
            Check.dueThrown("MONTH 24", () -> desk.cost(0, 1, 24, asked));
            Check.dueThrown("no PLANS", () -> new TariffDesk().cost(0, 1, 0, asked));
        }
    }

    private static void costWhat() {
        TariffDesk desk = Check.deskWith("plan a fee 7;", 1);
        for (int what : wrong(6, 7, 8)) {
            Check.dueThrown("what " + what, () -> desk.cost(0, 1, 0, what));
        }
    }

    private static void costCantBeHad() {
        TariffDesk desk = Check.deskWith("plan a fee 7 for 0 rest 1 for 2 rest 1;plan b fee 8 from 5 until 5 for 1 rest 0;", 2);
        Check.uses(desk, 2, 1, 4, 1);
        for (int what = 0; what <= 5; what++) {
            int asked = what;
            Check.dueThrown("what " + what, () -> desk.cost(0, 4, 4, asked));
            Check.dueThrown("what " + what + " of all", () -> desk.cost(0, 15, 4, asked));
            Check.due("what " + what + " of the others", desk.cost(0, 11, 4, what), what < 2 ? 7 : 0);
            // A MONTH in which it may not begin is one in which it can be had.
            Check.due("what " + what + " by b", desk.cost(1, 4, 4, what), what < 2 ? 8 : 0);
        }
    }

    private static void billAboveAndBelow() {
        TariffDesk desk = Check.deskWith("plan a fee 100 for 0 rest 5;", 1);
        Check.uses(desk, 0, 0, 0, 1);
        Check.uses(desk, 3, 0, 23, 20);
        Check.due("as it is due", desk.bill(0, 3, 23, 200), 0);
        Check.due("one above", desk.bill(0, 3, 23, 201), 1);
        Check.due("one below", desk.bill(0, 3, 23, 199), -1);
        Check.due("nothing", desk.bill(0, 3, 23, 0), -200);
        Check.due("below 0", desk.bill(0, 3, 23, -1), -201);
        Check.due("the first HOUSE and MONTH", desk.bill(0, 0, 0, 105), 0);
        Check.due("another HOUSE", desk.bill(0, 1, 0, 105), 5);
        Check.due("beyond an int", desk.bill(0, 3, 23, 1L << 40), (1L << 40) - 200);
        Check.due("far below", desk.bill(0, 3, 23, -1L << 40), (-1L << 40) - 200);
        Check.due("the greatest long", desk.bill(0, 3, 23, Long.MAX_VALUE), Long.MAX_VALUE - 200);
        Check.due("down to the least long", desk.bill(0, 3, 23, Long.MIN_VALUE + 200), Long.MIN_VALUE);
        Check.uses(desk, 3, 0, 23, 20000);
        Check.due("a dear one", desk.bill(0, 3, 23, 0), -100100);
    }

    private static void billOfNoSuch() {
        TariffDesk desk = Check.deskWith("plan a fee 7;plan b fee 8 for 1 rest 0;", 2);
        Check.uses(desk, 3, 1, 23, 1);
        Check.due("the last ones", desk.bill(1, 3, 23, 8), 0);
        Check.dueThrown("it can't be had", () -> desk.bill(0, 3, 23, 7));
        Check.due("it can be had by another HOUSE", desk.bill(0, 2, 23, 7), 0);
        for (int p : wrong(2, 3, 9, 10)) {
            Check.dueThrown("PLAN " + p, () -> desk.bill(p, 0, 0, 0));
        }
        for (int house : wrong(4, 5, 15, 31, 32, 33)) {
            Check.dueThrown("HOUSE " + house, () -> desk.bill(0, house, 0, 0));
        }
        for (int month : wrong(24, 25)) {
            Check.dueThrown("MONTH " + month, () -> desk.bill(0, 0, month, 0));
        }
        Check.dueThrown("no PLANS", () -> new TariffDesk().bill(0, 0, 0, 0));
    }

    // --- 14 best, 15 had

    private static void bestMonths() {
        TariffDesk desk = Check.deskWith("plan a fee 1;", 1);
        for (int from = -1; from <= 25; from++) {
            for (int to = Math.max(-1, from - 1); to <= 25; to++) {
                boolean told = 0 <= from && from < to && to <= 24;
                Check.due("best(1, " + from + ", " + to + ")", desk.best(1, from, to), told ? to - from : NONE);
            }
        }
        for (int far : FAR) {
            Check.due("best(1, 0, " + far + ")", desk.best(1, 0, far), NONE);
            Check.due("best(1, " + far + ", 24)", desk.best(1, far, 24), NONE);
            Check.due("best(1, " + far + ", " + (far + 1) + ")", desk.best(1, far, far + 1), NONE);
        }
    }

    private static void noBest() {
        TariffDesk none = new TariffDesk();
        Check.due("no PLANS", none.best(1, 0, 24), NONE);
        Check.dueRow(none, 0);
        TariffDesk desk = Check.deskWith("plan a fee 1 from 3 until 8 for 0 rest 1;plan b fee 9 from 3 until 8 for 0 rest 0;", 2);
        Check.uses(desk, 0, 0, 4, 20);
        Check.due("best", desk.best(1, 3, 6), 11);
        Check.dueRow(desk, 3, 0, 1, 0);
        Check.due("none may begin", desk.best(1, 2, 6), NONE);
        Check.dueRow(desk, 3, 0, 1, 0);
        Check.due("none may begin", desk.best(1, 9, 10), NONE);
        Check.dueRow(desk, 3, 0, 1, 0);
        Check.uses(desk, 1, 3, 5, 1);
        Check.due("none can be had", desk.best(2, 3, 6), NONE);
        Check.dueRow(desk, 3, 0, 1, 0);
        Check.due("none can be had", desk.best(15, 5, 6), NONE);
        Check.dueRow(desk, 3, 0, 1, 0);
    }

    private static void bestNotAsTold() {
        TariffDesk desk = Check.deskWith("plan a fee 1;", 1);
        for (int houses = 1; houses <= 15; houses++) {
            Check.due("best of " + houses, desk.best(houses, 2, 5), 3);
        }
        for (int houses : wrong(0, 16, 17, 31, 32)) {
            Check.due("best of " + houses, desk.best(houses, 0, 24), NONE);
            Check.due("had(2)", desk.had(2), 0);
            Check.due("had(5)", desk.had(5), NONE);
        }
        int[][] months = {{5, 5}, {6, 5}, {-1, 5}, {0, 25}, {24, 24}, {24, 25}, {0, 0}};
        for (int[] m : months) {
            Check.due("best(1, " + m[0] + ", " + m[1] + ")", desk.best(1, m[0], m[1]), NONE);
            Check.dueRow(desk, 2, 0, 0, 0);
        }
    }

    private static void latestRow() {
        TariffDesk desk = Check.deskWith("plan a fee 1 for 0 rest 9;plan b fee 2 for 0 rest 0;", 2);
        Check.uses(desk, 0, 0, 1, 1);
        Check.due("best", desk.best(1, 0, 3), 4);
        Check.dueRow(desk, 0, 0, 1, 0);
        Check.due("the next one", desk.best(2, 1, 3), 2);
        Check.dueRow(desk, 1, 0, 0);
        Check.due("a shorter one", desk.best(1, 1, 2), 2);
        Check.dueRow(desk, 1, 1);
        desk.best(0, 0, 0);
        Check.dueRow(desk, 1, 1);
        // It is a ROW of what was then: USES, SWITCH and SPANS that come later change nothing in it.
        Check.uses(desk, 0, 0, 0, 0, 0);
        desk.change(100);
        desk.span(0, 0, 9);
        Check.dueRow(desk, 1, 1);
    }

    private static void noneThen() {
        TariffDesk desk = Check.deskWith("plan a fee 1;", 1);
        desk.best(1, 0, 24);
        Check.due("had(0)", desk.had(0), 0);
        Check.due("had(23)", desk.had(23), 0);
        for (int month : wrong(24, 25)) {
            Check.due("had(" + month + ")", desk.had(month), NONE);
        }
        // MONTHS of an earlier ROW are none of this one.
        desk.best(1, 3, 5);
        Check.dueRow(desk, 3, 0, 0);
        for (int month : wrong(24, 25)) {
            Check.due("had(" + month + ")", desk.had(month), NONE);
        }
    }

    private static void rowForgotten() {
        Check.dueRow(new TariffDesk(), 0);
        TariffDesk desk = Check.deskWith("plan a fee 1;", 1);
        Check.dueRow(desk, 0);
        desk.best(1, 0, 0);
        desk.bills();
        Check.dueRow(desk, 0);
        desk.best(1, 0, 3);
        Check.dueRow(desk, 0, 0, 0, 0);
        Check.due("a FAULT", Check.plans(desk, "plan a fee"), -11);
        Check.dueRow(desk, 0, 0, 0, 0);
        Check.due("the same PLANS", Check.plans(desk, "plan a fee 1;"), 1);
        Check.dueRow(desk, 0);
        Check.due("none", desk.best(16, 0, 3), NONE);
        Check.dueRow(desk, 0);
        desk.best(1, 1, 2);
        Check.dueRow(desk, 1, 0);
    }

    // --- 16 bills, 17 group

    private static void billsTold() {
        TariffDesk desk = Check.deskWith("plan a fee 0 for 0 free 1 rest 1;", 1);
        Check.due("0 is a sum", desk.bills(), 0);
        for (int house = 0; house < 4; house++) {
            Check.uses(desk, house, 0, 0, 2);
        }
        Check.due("four BESTS", desk.bills(), 4);
        long sum = 0;
        for (int house = 0; house < 4; house++) {
            sum += desk.best(desk.group(house), 0, 24);
        }
        Check.due("their sum", sum, 4);
    }

    private static void noBills() {
        TariffDesk desk = new TariffDesk();
        Check.due("no PLANS", desk.bills(), NONE);
        Check.dueGroups(desk, NONE, NONE, NONE, NONE);
        Check.plans(desk, "plan a fee 1 from 1 until 23;");
        Check.due("none may begin in MONTH 0", desk.bills(), NONE);
        Check.dueGroups(desk, NONE, NONE, NONE, NONE);
        Check.plans(desk, "plan a fee 1 for 0 free 1 rest 9999;");
        Check.uses(desk, 0, 0, 0, 1);
        Check.uses(desk, 1, 0, 0, 1);
        Check.due("bills()", desk.bills(), 48);
        Check.dueGroups(desk, 1, 14, 14, 14);
        for (int house = 0; house < 4; house++) {
            Check.uses(desk, house, 1, 23, 1);
            Check.due("one HOUSE has none", desk.bills(), NONE);
            Check.dueGroups(desk, 1, 14, 14, 14);
            Check.uses(desk, house, 1, 23, 0);
        }
        Check.uses(desk, 1, 0, 0, 0);
        Check.due("again", desk.bills(), 24);
        Check.dueGroups(desk, 15, 15, 15, 15);
    }

    private static void rowStaysBehindBills() {
        TariffDesk desk = Check.deskWith("plan a fee 1 for 0 rest 9;plan b fee 2 for 0 rest 0;", 2);
        Check.uses(desk, 0, 0, 1, 1);
        desk.best(1, 0, 3);
        Check.dueRow(desk, 0, 0, 1, 0);
        Check.due("bills()", desk.bills(), 25);
        Check.dueRow(desk, 0, 0, 1, 0);
        Check.uses(desk, 0, 1, 0, 1);
        Check.due("no bills", desk.bills(), NONE);
        Check.dueRow(desk, 0, 0, 1, 0);
        TariffDesk fresh = Check.deskWith("plan a fee 1;", 1);
        Check.due("bills()", fresh.bills(), 24);
        Check.dueRow(fresh, 0);
    }

    private static void latestGroups() {
        TariffDesk desk = Check.deskWith("plan a fee 1 for 0 free 1 rest 9999;", 1);
        Check.due("bills()", desk.bills(), 24);
        Check.dueGroups(desk, 15, 15, 15, 15);
        Check.uses(desk, 0, 0, 0, 1);
        Check.uses(desk, 3, 0, 0, 1);
        Check.dueGroups(desk, 15, 15, 15, 15);
        desk.best(1, 0, 3);
        Check.dueGroups(desk, 15, 15, 15, 15);
        Check.due("the next bills()", desk.bills(), 48);
        Check.dueGroups(desk, 1, 14, 14, 14);
        Check.uses(desk, 0, 0, 0, 0);
        Check.uses(desk, 2, 0, 0, 1);
        Check.due("the next bills()", desk.bills(), 48);
        // HOUSES 2 and 3 are apart in 5 and 10, 7 and 8, 9 and 6, 11 and 4.
        Check.dueGroups(desk, 5, 10, 5, 10);
    }

    private static void noSuchHouse() {
        TariffDesk desk = Check.deskWith("plan a fee 1;", 1);
        for (int house : wrong(4, 5, 15)) {
            Check.due("group(" + house + ")", desk.group(house), NONE);
        }
        desk.bills();
        Check.dueGroups(desk, 15, 15, 15, 15);
        for (int house : wrong(4, 5, 15)) {
            Check.due("group(" + house + ")", desk.group(house), NONE);
        }
    }

    private static void groupsForgotten() {
        Check.dueGroups(new TariffDesk(), NONE, NONE, NONE, NONE);
        TariffDesk desk = Check.deskWith("plan a fee 1;", 1);
        Check.dueGroups(desk, NONE, NONE, NONE, NONE);
        desk.best(15, 0, 24);
        Check.dueGroups(desk, NONE, NONE, NONE, NONE);
        desk.bills();
        Check.dueGroups(desk, 15, 15, 15, 15);
        Check.due("a FAULT", Check.plans(desk, "plan a fee"), -11);
        Check.dueGroups(desk, 15, 15, 15, 15);
        Check.due("the same PLANS", Check.plans(desk, "plan a fee 1;"), 1);
        Check.dueGroups(desk, NONE, NONE, NONE, NONE);
        Check.uses(desk, 0, 0, 0, 1);
        Check.due("none", desk.bills(), NONE);
        Check.dueGroups(desk, NONE, NONE, NONE, NONE);
    }

    // --- 18 span, 19 above

    /** Its SPAN of a SERVICE is told back by one cent a unit. */
    private static TariffDesk deskForSpans() {
        return Check.deskWith("plan a fee 0 for 0 rest 1 for 1 rest 1 for 2 rest 1 for 3 rest 1;"
                + "plan b fee 0 for 0 rest 0 for 1 rest 0 for 2 rest 0 for 3 rest 0;", 2);
    }

    private static void dueSpan(TariffDesk desk, int least, int greatest) {
        Check.due("least", desk.above(0, 1, false), least);
        Check.due("greatest", desk.above(0, 1, true), greatest);
    }

    private static void spanHolds() {
        for (int service = 0; service < 4; service++) {
            TariffDesk desk = deskForSpans();
            int[][] right = {{0, 1}, {1, 1}, {0, 20000}, {20000, 20000}, {19999, 20000}, {5, 9}, {0, 0}};
            for (int[] span : right) {
                Check.due("span", desk.span(service, span[0], span[1]), true);
                dueSpan(desk, span[0], span[1]);
            }
        }
        TariffDesk all = deskForSpans();
        for (int service = 0; service < 4; service++) {
            all.span(service, 1 << service, 10 << service);
        }
        dueSpan(all, 15, 150);
    }

    private static void spanOfNoSuch() {
        TariffDesk desk = deskForSpans();
        for (int service = 0; service < 4; service++) {
            desk.span(service, 1 << service, 10 << service);
        }
        for (int service : wrong(4, 5)) {
            Check.due("span of " + service, desk.span(service, 0, 1), false);
            Check.due("span of " + service, desk.span(service, 0, 0), false);
            dueSpan(desk, 15, 150);
        }
    }

    private static void spanRefused() {
        TariffDesk desk = deskForSpans();
        desk.span(2, 5, 9);
        int[][] wrong = {{-1, 0}, {-1, 9}, {-2, -1}, {-1, -1}, {1, 0}, {9, 8}, {20000, 19999}, {0, 20001}, {20001, 20001},
            {20000, 20001}, {20001, 20000}, {0, Integer.MAX_VALUE}, {Integer.MIN_VALUE, 0}, {Integer.MIN_VALUE, Integer.MAX_VALUE},
            {Integer.MAX_VALUE, Integer.MIN_VALUE}, {Integer.MIN_VALUE, Integer.MIN_VALUE}, {0, -1}, {0, Integer.MIN_VALUE}};
        for (int[] span : wrong) {
            Check.due("span(2, " + span[0] + ", " + span[1] + ")", desk.span(2, span[0], span[1]), false);
            dueSpan(desk, 5, 9);
        }
    }

    private static void leastAndMost() {
        TariffDesk desk = Check.deskWith("plan a fee 10 for 0 rest 1;plan b fee 4 for 0 rest 2;", 2);
        Check.due("least of no units", desk.above(0, 1, false), 6);
        Check.due("most of no units", desk.above(0, 1, true), 6);
        desk.span(0, 0, 10);
        Check.due("least", desk.above(0, 1, false), -4);
        Check.due("most", desk.above(0, 1, true), 6);
        Check.due("the other way, least", desk.above(1, 0, false), -6);
        Check.due("the other way, most", desk.above(1, 0, true), 4);
        Check.due("-1 is an answer like others", Check.plans(desk, "plan a fee 4;plan b fee 5;"), 2);
        desk.span(0, 0, 0);
        Check.due("-1", desk.above(0, 1, false), -1);
        Check.due("1", desk.above(1, 0, true), 1);
    }

    private static void aboveOfNoSuch() {
        TariffDesk none = new TariffDesk();
        Check.dueThrown("no PLANS", () -> none.above(0, 0, true));
        Check.dueThrown("no PLANS", () -> none.above(0, 0, false));
        TariffDesk desk = Check.deskWith("plan a fee 10;plan b fee 4;", 2);
        Check.due("the last one", desk.above(1, 1, true), 0);
        for (int p : wrong(2, 3, 9, 10)) {
            Check.dueThrown("above(" + p + ", 0)", () -> desk.above(p, 0, true));
            Check.dueThrown("above(0, " + p + ")", () -> desk.above(0, p, false));
            Check.dueThrown("above(" + p + ", " + p + ")", () -> desk.above(p, p, false));
        }
        Check.plans(desk, "plan a fee 10;");
        Check.dueThrown("one that was there", () -> desk.above(0, 1, true));
    }

    private static void aboveNotTold() {
        TariffDesk desk = Check.deskWith("plan a fee 10 for 0 rest 1;plan b fee 4 for 0 rest 2 for 3 rest 3;", 2);
        desk.span(0, 0, 5);
        Check.due("told", desk.above(0, 1, true), 6);
        desk.span(3, 0, 1);
        Check.dueThrown("the first has no PART", () -> desk.above(0, 1, true));
        Check.dueThrown("the second has no PART", () -> desk.above(1, 0, false));
        Check.dueThrown("both have none", () -> desk.above(0, 0, false));
        Check.due("both have it", desk.above(1, 1, false), 0);
        desk.span(3, 0, 0);
        Check.due("told again", desk.above(0, 1, true), 6);
    }

    // --- 20 count

    private static void counts() {
        TariffDesk desk = Check.deskWith(Check.manyPlans(10), 10);
        Check.due("ten PLANS", desk.count(0), 10);
        desk.change(100000);
        Check.due("SWITCH", desk.count(1), 100000);
        for (int k = 0; k < 42; k++) {
            desk.feed(0, 0, 0, 0, 0);
        }
        Check.due("a full tape", desk.count(2), 840);
        Check.due("OUT", desk.count(3), 0);
        desk.name(0);
        Check.due("OUT", desk.count(3), 1);
        Check.due("a full tape", desk.count(2), 840);
        desk.plans();
        Check.due("an empty tape", desk.count(2), 0);
        Check.due("ten PLANS", desk.count(0), 10);
    }

    private static void countWhat() {
        TariffDesk desk = Check.deskWith("plan a fee 5;", 1);
        for (int what : wrong(4, 5, 6)) {
            Check.due("count(" + what + ")", desk.count(what), NONE);
        }
    }
}
