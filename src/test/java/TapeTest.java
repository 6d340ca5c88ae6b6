/** Promises 1 (a new object), 2 feed, 3 end and 20 count. */
public final class TapeTest {
    public static void main(String[] args) {
        newObject();
        fedBytes();
        fullTape();
        shortenedTape();
        counts();
        Check.finish();
    }

    private static void newObject() {
        TariffDesk desk = new TariffDesk();
        for (int what = 0; what <= 3; what++) {
            Check.due("new count(" + what + ")", desk.count(what), 0);
        }
        Check.due("new fault()", desk.fault(), 0);
        for (int house = 0; house < 4; house++) {
            Check.due("new group()", desk.group(house), -1);
            for (int service = 0; service < 4; service++) {
                for (int month = 0; month < 24; month++) {
                    Check.due("new use()", desk.use(house, service, month), 0);
                }
            }
        }
        Check.dueRow(desk, 0);
        Check.due("new best()", desk.best(1, 0, 24), -1);
        Check.due("new bills()", desk.bills(), -1);
        Check.due("new name(0)", desk.name(0), -1);
        Check.dueThrown("new plan(0, 0)", () -> desk.plan(0, 0));
        Check.dueThrown("new octet(0)", () -> desk.octet(0));
        Check.dueThrown("new cost", () -> desk.cost(0, 1, 0, 0));
        Check.dueThrown("new bill", () -> desk.bill(0, 0, 0, 0));
        Check.dueThrown("new above", () -> desk.above(0, 0, true));
        Check.due("SPANS of 0 need no PART", Check.plans(desk, "plan a fee 7;plan b fee 9;"), 2);
        Check.due("new SPANS", desk.above(0, 1, true), -2);
    }

    /** Bytes above 127 and the order of bytes are seen through uses(). */
    private static void fedBytes() {
        TariffDesk desk = new TariffDesk();
        Check.due("feed", desk.feed(0x00ff01fe, 0x02fd03fc, 0x04fb05fa, 0x06f907f8, 0x08f709f6), 20);
        Check.due("uses", desk.uses(2, 1, 3), 10);
        for (int k = 0; k < 10; k++) {
            Check.due("use " + k, desk.use(2, 1, 3 + k), k << 8 | 255 - k);
        }
        Check.due("feed of numbers below 0", desk.feed(-1, -1, -1, -1, -1), 20);
        Check.due("uses above 20000", desk.uses(0, 0, 0), -1);
    }

    private static void fullTape() {
        TariffDesk desk = new TariffDesk();
        for (int k = 1; k <= 42; k++) {
            Check.due("feed " + k, desk.feed(0, 0, 0, 0, 0), 20 * k);
        }
        Check.due("feed 43", desk.feed(0, 0, 0, 0, 0), -1);
        Check.due("full tape", desk.count(2), 840);
        Check.due("end(821)", desk.end(821), true);
        Check.due("feed beyond 840", desk.feed(0, 0, 0, 0, 0), -1);
        Check.due("tape stays", desk.count(2), 821);
        Check.due("end(820)", desk.end(820), true);
        Check.due("feed up to 840", desk.feed(0, 0, 0, 0, 0), 840);
    }

    private static void shortenedTape() {
        TariffDesk desk = new TariffDesk();
        Check.due("end(0) of an empty tape", desk.end(0), true);
        Check.due("end(1) of an empty tape", desk.end(1), false);
        desk.feed(0x00010002, 0x00030004, 0, 0, 0);
        Check.due("end(-1)", desk.end(-1), false);
        Check.due("end(least int)", desk.end(Integer.MIN_VALUE), false);
        Check.due("end(21)", desk.end(21), false);
        Check.due("tape stays", desk.count(2), 20);
        Check.due("end(20)", desk.end(20), true);
        Check.due("end(4)", desk.end(4), true);
        Check.due("end(5)", desk.end(5), false);
        Check.due("tape", desk.count(2), 4);
        Check.due("feed behind", desk.feed(0x00050006, 0, 0, 0, 0), 24);
        desk.end(8);
        Check.due("uses", desk.uses(0, 0, 0), 4);
        Check.due("the first ones stay", desk.use(0, 0, 1), 2);
        Check.due("the next come behind", desk.use(0, 0, 2), 5);
    }

    private static void counts() {
        TariffDesk desk = Check.deskWith("plan abc fee 1;plan d fee 1;", 2);
        desk.change(77);
        desk.name(0);
        desk.feed(0, 0, 0, 0, 0);
        Check.due("count(0)", desk.count(0), 2);
        Check.due("count(1)", desk.count(1), 77);
        Check.due("count(2)", desk.count(2), 20);
        Check.due("count(3)", desk.count(3), 3);
        Check.due("count(4)", desk.count(4), -1);
        Check.due("count(-1)", desk.count(-1), -1);
        Check.due("count(greatest int)", desk.count(Integer.MAX_VALUE), -1);
        Check.due("count(least int)", desk.count(Integer.MIN_VALUE), -1);
    }
}
