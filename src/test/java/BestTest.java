/** Promises 14 best and 15 had. */
public final class BestTest {
    public static void main(String[] args) {
        likeOnes();
        switches();
        terms();
        seasons();
        tenPlans();
        cantBeHad();
        wrongOnes();
        whatStays();
        Check.finish();
    }

    private static void likeOnes() {
        TariffDesk desk = Check.deskWith("plan a fee 5;plan b fee 5;plan c fee 4 term 2 from 3 until 3;", 3);
        Check.due("best", desk.best(1, 0, 3), 15);
        Check.dueRow(desk, 0, 0, 0, 0);
        Check.due("best", desk.best(1, 2, 6), 17);
        Check.dueRow(desk, 2, 0, 2, 2, 2);
        desk.change(3);
        // One change costs what three MONTHS of c spare.
        Check.due("best", desk.best(1, 2, 6), 20);
        Check.dueRow(desk, 2, 0, 0, 0, 0);
        Check.due("best", desk.best(1, 2, 7), 24);
        Check.dueRow(desk, 2, 0, 2, 2, 2, 2);
        TariffDesk other = Check.deskWith("plan c fee 4 term 2 from 3 until 3;plan a fee 5;plan b fee 5;", 3);
        other.change(3);
        Check.due("the lesser PLAN where they are first unlike", other.best(1, 2, 6), 20);
        Check.dueRow(other, 2, 1, 0, 0, 0);
    }

    private static void switches() {
        TariffDesk desk = Check.deskWith("plan a fee 0 for 0 rest 1;plan b fee 10 for 0 rest 0;", 2);
        Check.uses(desk, 0, 0, 0, 0, 20, 0, 20);
        Check.due("free changes", desk.best(1, 0, 4), 20);
        Check.dueRow(desk, 0, 0, 1, 0, 1);
        desk.change(4);
        Check.due("three changes", desk.best(1, 0, 4), 32);
        Check.dueRow(desk, 0, 0, 1, 0, 1);
        desk.change(6);
        Check.due("one change, early or late", desk.best(1, 0, 4), 36);
        Check.dueRow(desk, 0, 0, 0, 0, 1);
        desk.change(11);
        Check.due("no change", desk.best(1, 0, 4), 40);
        Check.dueRow(desk, 0, 0, 0, 0, 0);
        desk.change(100000);
        Check.due("no change", desk.best(1, 0, 4), 40);
        Check.due("one MONTH has none", desk.best(1, 1, 2), 10);
        Check.dueRow(desk, 1, 1);
    }

    private static void terms() {
        TariffDesk desk = Check.deskWith("plan a fee 0 for 0 rest 1;plan b fee 10 term 3 for 0 rest 0;", 2);
        Check.uses(desk, 0, 0, 0, 0, 50, 0, 0, 0, 50);
        Check.due("the term is kept", desk.best(1, 0, 5), 30);
        Check.dueRow(desk, 0, 0, 1, 1, 1, 0);
        Check.due("the last MONTH cuts it", desk.best(1, 0, 6), 40);
        Check.dueRow(desk, 0, 0, 1, 1, 1, 0, 1);
        Check.due("in the first MONTH, too", desk.best(1, 1, 2), 10);
        Check.dueRow(desk, 1, 1);
        TariffDesk other = Check.deskWith("plan a fee 1 for 0 rest 100;plan b fee 3 term 2 for 0 rest 0;", 2);
        Check.uses(other, 0, 0, 0, 1, 1, 1, 0, 0);
        Check.due("a longer stay has no second term", other.best(1, 0, 5), 11);
        Check.dueRow(other, 0, 1, 1, 1, 0, 0);
        TariffDesk whole = Check.deskWith("plan a fee 1 term 24;plan b fee 0 from 1 until 23;", 2);
        Check.due("24 MONTHS", whole.best(1, 0, 24), 24);
        Check.due("behind it", whole.best(1, 1, 24), 0);
        Check.dueRow(whole, 1, 1, 1, 1, 1, 1, 1, 1, 1, 1, 1, 1, 1, 1, 1, 1, 1, 1, 1, 1, 1, 1, 1, 1);
    }

    private static void seasons() {
        TariffDesk desk = Check.deskWith("plan a fee 9;plan b fee 1 from 2 until 3;plan c fee 0 from 6 until 7;", 3);
        Check.due("it lasts beyond them", desk.best(8, 0, 6), 22);
        Check.dueRow(desk, 0, 0, 0, 1, 1, 1, 1);
        Check.due("the first MONTH, too", desk.best(8, 4, 6), 18);
        Check.dueRow(desk, 4, 0, 0);
        Check.due("last of them", desk.best(8, 3, 5), 2);
        Check.due("behind the last of them", desk.best(8, 4, 5), 9);
        Check.due("c", desk.best(8, 2, 9), 4);
        Check.dueRow(desk, 2, 1, 1, 1, 1, 2, 2, 2);
        TariffDesk only = Check.deskWith("plan b fee 1 from 2 until 3;", 1);
        Check.due("none in the first MONTH", only.best(1, 1, 4), -1);
        Check.due("none behind", only.best(1, 4, 5), -1);
        Check.due("MONTH 2", only.best(1, 2, 24), 22);
        Check.due("MONTH 3", only.best(1, 3, 24), 21);
    }

    /** PLAN k is the cheapest one in MONTH k; the first one is in MONTHS 10 to 23, too. */
    private static void tenPlans() {
        StringBuilder text = new StringBuilder("plan a fee 0;");
        for (int k = 1; k < 10; k++) {
            text.append("plan ").append((char) ('a' + k)).append(" fee 2 for 0 free ").append(10 * k).append(" rest 1;");
        }
        TariffDesk desk = Check.deskWith(text.toString(), 10);
        Check.due("the first PLAN alone", desk.best(15, 0, 24), 0);
        Check.uses(desk, 0, 0, 1, 10, 20, 30, 40, 50, 60, 70, 80, 90);
        int[] row = new int[24];
        for (int k = 0; k < 10; k++) {
            row[k] = k;
        }
        Check.due("ten PLANS", desk.best(1, 0, 24), 18);
        Check.dueRow(desk, 0, row);
        Check.due("the tenth PLAN", desk.best(1, 9, 10), 2);
        Check.dueRow(desk, 9, 9);
        desk.change(5);
        Check.due("ten PLANS with SWITCH", desk.best(1, 0, 24), 10 * 2 + 5);
        Check.dueRow(desk, 0, 9, 9, 9, 9, 9, 9, 9, 9, 9, 9, 0, 0, 0, 0, 0, 0, 0, 0, 0, 0, 0, 0, 0, 0);
        Check.due("bills", desk.bills(), 10 * 2 + 5);
        Check.due("group(0)", desk.group(0), 1);
        Check.due("group(3)", desk.group(3), 8);
    }

    private static void cantBeHad() {
        TariffDesk desk = Check.deskWith("plan a fee 1 term 2 for 0 rest 1;plan b fee 100 for 1 rest 0 for 0 rest 0;", 2);
        Check.uses(desk, 0, 1, 2, 5);
        Check.due("a MONTH in between", desk.best(1, 0, 5), 104);
        Check.dueRow(desk, 0, 0, 0, 1, 0, 0);
        Check.due("a term that is in the way", desk.best(1, 1, 4), 201);
        Check.dueRow(desk, 1, 1, 1, 0);
        Check.due("another HOUSE", desk.best(2, 1, 4), 3);
        Check.due("with another HOUSE", desk.best(3, 1, 4), 201);
        Check.uses(desk, 3, 2, 3, 1);
        Check.due("none", desk.best(8, 0, 24), -1);
        Check.due("ahead of it", desk.best(8, 0, 3), 3);
        Check.due("behind it", desk.best(8, 4, 24), 20);
        Check.due("no PLANS", new TariffDesk().best(15, 0, 24), -1);
        TariffDesk bare = Check.deskWith("plan a fee 3;", 1);
        Check.uses(bare, 1, 3, 0, 0, 1, 0);
        Check.due("no PARTS, no USES", bare.best(2, 0, 1), 3);
        Check.due("no PARTS", bare.best(2, 0, 2), -1);
    }

    private static void wrongOnes() {
        TariffDesk desk = Check.deskWith("plan a fee 1;", 1);
        int[][] wrong = {{0, 0, 1}, {16, 0, 1}, {-1, 0, 1}, {1, -1, 1}, {1, 0, 25}, {1, 1, 1}, {1, 2, 1}, {1, 0, 0},
            {1, 24, 24}, {1, 24, 25}, {1, Integer.MIN_VALUE, 5}, {1, 0, Integer.MAX_VALUE}, {1, 0, Integer.MIN_VALUE},
            {Integer.MIN_VALUE, 0, 1}, {Integer.MAX_VALUE, 0, 1}};
        for (int[] w : wrong) {
            Check.due("best of no such ones", desk.best(w[0], w[1], w[2]), -1);
        }
        Check.dueRow(desk, 0);
        Check.due("all", desk.best(15, 0, 24), 24);
        Check.due("last MONTH", desk.best(15, 23, 24), 1);
        Check.dueRow(desk, 23, 0);
        Check.due("had(-1)", desk.had(-1), -1);
        Check.due("had(24)", desk.had(24), -1);
        Check.due("had(greatest int)", desk.had(Integer.MAX_VALUE), -1);
        Check.due("had(least int)", desk.had(Integer.MIN_VALUE), -1);
    }

    private static void whatStays() {
        TariffDesk desk = Check.deskWith("plan a fee 1 for 0 rest 1;plan b fee 2 for 0 rest 0;", 2);
        Check.uses(desk, 0, 0, 1, 9);
        Check.due("best", desk.best(1, 0, 3), 4);
        Check.dueRow(desk, 0, 0, 1, 0);
        Check.uses(desk, 0, 1, 1, 1);
        Check.due("none", desk.best(1, 0, 3), -1);
        Check.dueRow(desk, 0, 0, 1, 0);
        Check.due("not as told", desk.best(1, 3, 3), -1);
        Check.dueRow(desk, 0, 0, 1, 0);
        Check.uses(desk, 0, 0, 0, 0, 0, 0);
        desk.change(500);
        Check.due("bills", desk.bills(), -1);
        Check.dueRow(desk, 0, 0, 1, 0);
        Check.dueFault(desk, "plan", 4, 1);
        Check.dueRow(desk, 0, 0, 1, 0);
        Check.uses(desk, 0, 1, 1, 0);
        Check.due("bills", desk.bills(), 24);
        Check.dueRow(desk, 0, 0, 1, 0);
        Check.due("like PLANS", Check.plans(desk, "plan a fee 1 for 0 rest 1;plan b fee 2 for 0 rest 0;"), 2);
        Check.dueRow(desk, 0);
        Check.due("none", desk.best(0, 0, 3), -1);
        Check.dueRow(desk, 0);
    }
}
