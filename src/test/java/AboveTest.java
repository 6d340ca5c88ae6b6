/** Promises 18 span and 19 above. */
public final class AboveTest {
    public static void main(String[] args) {
        spans();
        corners();
        severalServices();
        notTold();
        Check.finish();
    }

    private static void dueAbove(TariffDesk desk, int p, int q, long least, long greatest) {
        Check.due("least of " + p + " above " + q, desk.above(p, q, false), least);
        Check.due("greatest of " + p + " above " + q, desk.above(p, q, true), greatest);
        Check.due("least of " + q + " above " + p, desk.above(q, p, false), -greatest);
        Check.due("greatest of " + q + " above " + p, desk.above(q, p, true), -least);
    }

    private static void spans() {
        TariffDesk desk = Check.deskWith("plan a fee 0 for 0 rest 1 for 3 rest 1;plan b fee 0 for 0 rest 0 for 3 rest 0;", 2);
        Check.due("span", desk.span(3, 2, 20000), true);
        dueAbove(desk, 0, 1, 2, 20000);
        int[][] wrong = {{-1, 0, 0}, {4, 0, 0}, {3, -1, 0}, {3, 1, 0}, {3, 0, 20001}, {3, 20001, 20001}, {3, -2, -1},
            {Integer.MAX_VALUE, 0, 0}, {Integer.MIN_VALUE, 0, 0}, {3, Integer.MIN_VALUE, 5}, {3, 0, Integer.MAX_VALUE}};
        for (int[] w : wrong) {
            Check.due("span not as told", desk.span(w[0], w[1], w[2]), false);
            dueAbove(desk, 0, 1, 2, 20000);
        }
        Check.due("span", desk.span(3, 20000, 20000), true);
        dueAbove(desk, 0, 1, 20000, 20000);
        Check.due("span", desk.span(3, 0, 0), true);
        dueAbove(desk, 0, 1, 0, 0);
        Check.due("span", desk.span(0, 7, 7), true);
        dueAbove(desk, 0, 1, 7, 7);
        Check.due("PLANS", Check.plans(desk, "plan a fee 0 for 0 rest 3;plan b fee 0 for 0 rest 0;"), 2);
        dueAbove(desk, 0, 1, 21, 21);
    }

    /** Each corner of each PLAN is once the place where the difference turns. */
    private static void corners() {
        TariffDesk desk = Check.deskWith("plan a fee 0 for 0 to 30 at 5 rest 5;"
                + "plan f fee 0 for 0 free 20 rest 10;"
                + "plan s fee 0 for 0 to 40 at 0 rest 10;"
                + "plan u fee 0 for 0 free 10 to 10 at 0 to 15 at 0 to 50 at 0 rest 10;"
                + "plan g fee 0 for 0 free 3 to 10 at 9 to 20 at 1 to 30 at 9 rest 1;", 5);
        desk.span(0, 0, 100);
        dueAbove(desk, 0, 1, 500 - 800, 100);
        dueAbove(desk, 0, 2, 500 - 600, 200);
        dueAbove(desk, 0, 3, 0, 300);
        // At 3: 15 - 0; at 13: 65 - 90; at 23: 115 - 100; at 33: 165 - 190; at 100: 500 - 257.
        dueAbove(desk, 0, 4, -25, 243);
        desk.span(0, 0, 20);
        dueAbove(desk, 0, 4, -25, 15);
        desk.span(0, 14, 30);
        dueAbove(desk, 0, 4, 140 / 2 - 91, 15);
        desk.span(0, 13, 13);
        dueAbove(desk, 0, 4, -25, -25);
        desk.span(0, 23, 23);
        dueAbove(desk, 0, 4, 15, 15);
        desk.span(0, 14, 22);
        dueAbove(desk, 0, 4, 70 - 91, 110 - 99);
        dueAbove(desk, 4, 4, 0, 0);
    }

    private static void severalServices() {
        TariffDesk desk = Check.deskWith("plan a fee 999999 for 0 rest 9999 for 1 rest 9999 for 2 rest 9999 for 3 rest 9999;"
                + "plan b fee 0 for 3 rest 0 for 2 rest 0 for 1 rest 0 for 0 rest 0;"
                + "plan c fee 7 for 0 rest 1 for 1 free 5 rest 100 for 2 rest 0 for 3 rest 0;", 3);
        for (int service = 0; service < 4; service++) {
            desk.span(service, 0, 20000);
        }
        dueAbove(desk, 0, 1, 999999, 999999 + 4L * 20000 * 9999);
        desk.span(0, 1, 2);
        desk.span(1, 3, 10);
        dueAbove(desk, 2, 1, 7 + 1, 7 + 2 + 500);
        // USES and SWITCH say nothing here.
        Check.uses(desk, 0, 0, 0, 99);
        desk.change(1000);
        dueAbove(desk, 2, 1, 7 + 1, 7 + 2 + 500);
    }

    private static void notTold() {
        TariffDesk desk = Check.deskWith("plan a fee 10 for 0 rest 1;plan b fee 4 for 0 rest 2 for 1 rest 3;plan c fee 1;", 3);
        dueAbove(desk, 0, 2, 9, 9);
        desk.span(0, 0, 5);
        dueAbove(desk, 0, 1, 1, 6);
        int[][] wrong = {{0, 2}, {2, 0}, {2, 2}, {-1, 0}, {0, -1}, {3, 0}, {0, 3}, {Integer.MAX_VALUE, 0},
            {0, Integer.MIN_VALUE}};
        for (int[] w : wrong) {
            Check.dueThrown("above(" + w[0] + ", " + w[1] + ")", () -> desk.above(w[0], w[1], true));
            Check.dueThrown("above(" + w[0] + ", " + w[1] + ")", () -> desk.above(w[0], w[1], false));
        }
        desk.span(1, 0, 1);
        Check.dueThrown("one has no PART", () -> desk.above(0, 1, true));
        Check.dueThrown("the other one has none", () -> desk.above(1, 0, true));
        dueAbove(desk, 1, 1, 0, 0);
        desk.span(1, 0, 0);
        dueAbove(desk, 0, 1, 1, 6);
    }
}
