/** Promises 12 cost and 13 bill. */
public final class CostTest {
    public static void main(String[] args) {
        stepByStep();
        together();
        greatestCost();
        wrongOnes();
        cantBeHad();
        bills();
        Check.finish();
    }

    private static void stepByStep() {
        TariffDesk desk = Check.deskWith("plan a fee 11 for 2 free 10 to 5 at 100 to 8 at 1000 to 20 at 7 rest 3;", 1);
        int[] units = {0, 9, 10, 11, 15, 16, 18, 19, 30, 31, 1000};
        long[] cents = {0, 0, 0, 100, 500, 1500, 3500, 3507, 3584, 3587, 6494};
        for (int k = 0; k < units.length; k++) {
            Check.uses(desk, 1, 2, 7, units[k]);
            Check.due("PART of " + units[k], desk.cost(0, 2, 7, 4), cents[k]);
            Check.due("all of " + units[k], desk.cost(0, 2, 7, 0), cents[k] + 11);
            Check.due("fee", desk.cost(0, 2, 7, 1), 11);
            Check.due("no PART 0", desk.cost(0, 2, 7, 2), 0);
            Check.due("no PART 1", desk.cost(0, 2, 7, 3), 0);
            Check.due("no PART 3", desk.cost(0, 2, 7, 5), 0);
            Check.due("another HOUSE", desk.cost(0, 1, 7, 0), 11);
            Check.due("another MONTH", desk.cost(0, 2, 8, 0), 11);
        }
    }

    /** Under one bill units are put together ahead of the steps. */
    private static void together() {
        TariffDesk desk = Check.deskWith("plan a fee 1 for 0 free 10 to 5 at 2 rest 30 for 3 rest 1000;", 1);
        for (int house = 0; house < 4; house++) {
            Check.uses(desk, house, 0, 0, 6 + house);
            Check.uses(desk, house, 3, 0, 1 << house);
        }
        for (int houses = 1; houses <= 15; houses++) {
            int units = 0;
            for (int house = 0; house < 4; house++) {
                units += (houses >> house & 1) * (6 + house);
            }
            long part = units <= 10 ? 0 : units <= 15 ? 2 * (units - 10) : 10 + 30 * (units - 15);
            Check.due("PART 0 of " + houses, desk.cost(0, houses, 0, 2), part);
            Check.due("PART 3 of " + houses, desk.cost(0, houses, 0, 5), 1000 * houses);
            Check.due("all of " + houses, desk.cost(0, houses, 0, 0), 1 + part + 1000 * houses);
        }
    }

    private static void greatestCost() {
        TariffDesk desk = Check.deskWith(
                "plan a fee 999999 for 0 rest 9999 for 1 rest 9999 for 2 to 20000 at 9999 rest 9999 for 3 rest 9999;", 1);
        int[] most = new int[24];
        java.util.Arrays.fill(most, 20000);
        for (int k = 0; k < 16; k++) {
            Check.uses(desk, k / 4, k % 4, 0, most);
        }
        long part = 80000L * 9999;
        Check.due("greatest PART", desk.cost(0, 15, 23, 4), part);
        Check.due("greatest COST", desk.cost(0, 15, 23, 0), 4 * part + 999999);
        Check.due("greatest BEST", desk.best(15, 0, 24), 24 * (4 * part + 999999));
        Check.due("greatest BILLS", desk.bills(), 24 * (4 * part + 999999));
        Check.due("one group", desk.group(2), 15);
    }

    private static void wrongOnes() {
        TariffDesk desk = Check.deskWith("plan a fee 1 for 0 rest 1;plan b fee 2;", 2);
        int[][] wrong = {{-1, 1, 0, 0}, {2, 1, 0, 0}, {0, 0, 0, 0}, {0, 16, 0, 0}, {0, -1, 0, 0}, {0, 17, 0, 0},
            {0, 1, -1, 0}, {0, 1, 24, 0}, {0, 1, 0, -1}, {0, 1, 0, 6}, {Integer.MAX_VALUE, 1, 0, 0},
            {0, Integer.MIN_VALUE, 0, 0}, {0, 1, Integer.MAX_VALUE, 0}, {0, 1, 0, Integer.MIN_VALUE},
            {0, 1, 0, Integer.MAX_VALUE}};
        for (int[] w : wrong) {
            Check.dueThrown("cost of no such ones", () -> desk.cost(w[0], w[1], w[2], w[3]));
        }
        int[][] wrongBills = {{-1, 0, 0}, {2, 0, 0}, {0, -1, 0}, {0, 4, 0}, {0, 32, 0}, {0, 0, -1}, {0, 0, 24},
            {0, Integer.MAX_VALUE, 0}, {0, Integer.MIN_VALUE, 0}};
        for (int[] w : wrongBills) {
            Check.dueThrown("bill of no such ones", () -> desk.bill(w[0], w[1], w[2], 0));
        }
    }

    private static void cantBeHad() {
        TariffDesk desk = Check.deskWith("plan a fee 1 for 0 rest 5;plan b fee 2 from 9 until 9 for 1 rest 7;", 2);
        Check.uses(desk, 0, 0, 4, 3);
        Check.uses(desk, 1, 1, 4, 2);
        Check.due("a of HOUSE 0", desk.cost(0, 1, 4, 0), 16);
        Check.due("b of HOUSE 1", desk.cost(1, 2, 4, 0), 16);
        for (int what = 0; what <= 5; what++) {
            int w = what;
            Check.dueThrown("a of HOUSE 1", () -> desk.cost(0, 2, 4, w));
            Check.dueThrown("a of both", () -> desk.cost(0, 3, 4, w));
            Check.dueThrown("b of HOUSE 0", () -> desk.cost(1, 1, 4, w));
        }
        Check.due("a of HOUSE 1 in another MONTH", desk.cost(0, 2, 5, 0), 1);
        Check.due("a of the others", desk.cost(0, 12, 4, 0), 1);
        Check.dueThrown("bill", () -> desk.bill(0, 1, 4, 0));
    }

    private static void bills() {
        TariffDesk desk = Check.deskWith("plan a fee 100 for 0 rest 5;", 1);
        Check.uses(desk, 3, 0, 23, 20);
        Check.uses(desk, 2, 0, 23, 1);
        Check.due("as it is due", desk.bill(0, 3, 23, 200), 0);
        Check.due("above", desk.bill(0, 3, 23, 205), 5);
        Check.due("below", desk.bill(0, 3, 23, 150), -50);
        Check.due("less than 0", desk.bill(0, 3, 23, -150), -350);
        Check.due("HOUSE 2", desk.bill(0, 2, 23, 105), 0);
        Check.due("HOUSE 0", desk.bill(0, 0, 23, 105), 5);
        Check.due("greatest", desk.bill(0, 3, 23, Long.MAX_VALUE), Long.MAX_VALUE - 200);
        Check.due("far below", desk.bill(0, 3, 23, Long.MIN_VALUE + 200), Long.MIN_VALUE);
        Check.due("-1 is a bill like others", desk.bill(0, 3, 23, -1), -201);
    }
}
