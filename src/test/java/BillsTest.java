/** Promises 16 bills and 17 group. */
public final class BillsTest {
    public static void main(String[] args) {
        likeOnes();
        cheapest();
        onlyApart();
        wholeTime();
        whatStays();
        Check.finish();
    }

    private static void dueGroups(TariffDesk desk, int... groups) {
        Check.dueGroups(desk, groups);
        int[] wrong = {-1, 4, 5, Integer.MAX_VALUE, Integer.MIN_VALUE};
        for (int house : wrong) {
            Check.due("group(" + house + ")", desk.group(house), -1);
        }
    }

    private static void likeOnes() {
        TariffDesk desk = Check.deskWith("plan a fee 0 for 0 rest 1;", 1);
        Check.uses(desk, 0, 0, 0, 1);
        Check.uses(desk, 1, 0, 5, 1);
        Check.uses(desk, 2, 0, 7, 1);
        Check.uses(desk, 3, 0, 9, 1);
        Check.due("all like", desk.bills(), 4);
        dueGroups(desk, 1, 2, 4, 8);
        // A fee of 1 for each group and ten free units: one HOUSE more than two fit.
        TariffDesk pairs = Check.deskWith("plan a fee 1 for 0 free 10 rest 1000;", 1);
        for (int house = 0; house < 4; house++) {
            Check.uses(pairs, house, 0, 0, 5);
        }
        Check.due("pairs", pairs.bills(), 48);
        dueGroups(pairs, 3, 3, 12, 12);
        Check.uses(pairs, 0, 0, 0, 6);
        Check.uses(pairs, 1, 0, 0, 6);
        Check.uses(pairs, 2, 0, 0, 4);
        Check.uses(pairs, 3, 0, 0, 4);
        Check.due("other pairs", pairs.bills(), 48);
        dueGroups(pairs, 5, 10, 5, 10);
        Check.uses(pairs, 1, 0, 0, 5);
        Check.uses(pairs, 2, 0, 0, 5);
        Check.due("the last pairs", pairs.bills(), 48);
        dueGroups(pairs, 9, 6, 6, 9);
    }

    /** 7 is a lesser number than 9, though it has more HOUSES. */
    private static void cheapest() {
        TariffDesk desk = Check.deskWith("plan a fee 1 for 0 free 9 rest 1000 for 1 free 9 rest 1000;", 1);
        Check.uses(desk, 0, 0, 0, 3);
        Check.uses(desk, 1, 0, 0, 3);
        Check.uses(desk, 2, 0, 0, 3);
        Check.uses(desk, 3, 0, 0, 9);
        Check.due("three and one", desk.bills(), 48);
        dueGroups(desk, 7, 7, 7, 8);
        Check.uses(desk, 0, 0, 0, 0);
        Check.uses(desk, 0, 1, 0, 5);
        Check.uses(desk, 1, 0, 0, 4);
        Check.uses(desk, 2, 0, 0, 5);
        Check.due("like ones with 7 and 9", desk.bills(), 48);
        dueGroups(desk, 7, 7, 7, 8);
        Check.uses(desk, 2, 1, 0, 5);
        Check.due("9 is left", desk.bills(), 48);
        dueGroups(desk, 9, 6, 6, 9);
    }

    private static void onlyApart() {
        TariffDesk desk = Check.deskWith("plan a fee 3 for 0 rest 0;plan b fee 4 for 1 rest 0;", 2);
        Check.uses(desk, 0, 0, 0, 1);
        Check.uses(desk, 1, 1, 0, 1);
        Check.due("together", desk.best(3, 0, 24), -1);
        // The lesser one is had from MONTH 1 on.
        Check.due("apart", desk.bills(), 72 + 73);
        dueGroups(desk, 1, 14, 14, 14);
        Check.uses(desk, 1, 2, 3, 1);
        Check.due("none", desk.bills(), -1);
        dueGroups(desk, 1, 14, 14, 14);
    }

    private static void wholeTime() {
        TariffDesk desk = Check.deskWith("plan a fee 10 for 0 free 5 rest 100;", 1);
        Check.uses(desk, 0, 0, 23, 5);
        Check.uses(desk, 3, 0, 23, 5);
        Check.due("the last MONTH counts", desk.bills(), 480);
        dueGroups(desk, 1, 14, 14, 14);
        TariffDesk late = Check.deskWith("plan a fee 10 from 1 until 23;", 1);
        Check.due("the first MONTH counts", late.bills(), -1);
        dueGroups(late, -1, -1, -1, -1);
        TariffDesk changes = Check.deskWith("plan a fee 0 for 0 rest 1;plan b fee 10 for 0 rest 0;", 2);
        Check.uses(changes, 2, 0, 23, 100);
        Check.due("free changes", changes.bills(), 10);
        changes.change(7);
        Check.due("SWITCH counts", changes.bills(), 17);
        dueGroups(changes, 1, 2, 4, 8);
    }

    private static void whatStays() {
        TariffDesk desk = Check.deskWith("plan a fee 1;", 1);
        dueGroups(desk, -1, -1, -1, -1);
        Check.due("bills", desk.bills(), 24);
        dueGroups(desk, 15, 15, 15, 15);
        Check.dueFault(desk, "plan a fee", 10, 1);
        dueGroups(desk, 15, 15, 15, 15);
        Check.due("best", desk.best(1, 0, 5), 5);
        dueGroups(desk, 15, 15, 15, 15);
        Check.uses(desk, 0, 0, 0, 1);
        Check.due("none", desk.bills(), -1);
        dueGroups(desk, 15, 15, 15, 15);
        Check.due("PLANS", Check.plans(desk, "plan a fee 1;"), 1);
        dueGroups(desk, -1, -1, -1, -1);
        Check.due("none", desk.bills(), -1);
        dueGroups(desk, -1, -1, -1, -1);
    }
}
