import java.util.NoSuchElementException;
import java.util.Random;

/** Calls in any order with any numbers: none throws but those that may, and what throws changes nothing. */
public final class WildTest {
    private static final Random DRAWN = new Random(7);
    private static final int[] NUMBERS = {0, 1, 2, 3, 4, 5, 6, 7, 8, 9, 10, 11, 15, 16, 20, 22, 23, 24, 25, 31, 32, -1, -2,
        799, 800, 801, 840, 841, 20000, 20001, 100000, 100001, 1 << 16, 1 << 30, 1 << 31, Integer.MAX_VALUE,
        Integer.MAX_VALUE - 1, Integer.MIN_VALUE + 1};
    private static final String[] TEXTS = {"plan a fee 5;", "plan b fee 3 term 3 from 1 until 8 for 0 free 2 to 3 at 4 rest 5;",
        "plan c fee 1 for 0 rest 9 for 1 rest 2 for 2 to 4 at 1 rest 3 for 3 rest 0;", "plan", " ", "plan a fee 7 for 0"};

    public static void main(String[] args) {
        for (int run = 0; run < 400; run++) {
            TariffDesk desk = new TariffDesk();
            for (int call = 0; call < 512; call++) {
                oneCall(desk);
            }
        }
        Check.finish();
    }

    private static int number() {
        int kind = DRAWN.nextInt(10);
        return kind < 6 ? DRAWN.nextInt(6) : kind < 9 ? NUMBERS[DRAWN.nextInt(NUMBERS.length)] : DRAWN.nextInt();
    }

    private static void oneCall(TariffDesk desk) {
        int which = DRAWN.nextInt(21);
        long before = stateOf(desk);
        try {
            make(desk, which);
        } catch (NoSuchElementException e) {
            Check.due("call " + which + " may throw", which == 5 || which == 7 || which == 11 || which == 12 || which == 18, true);
            Check.due("state behind a throw", stateOf(desk), before);
        } catch (RuntimeException e) {
            Check.due("call " + which + " threw " + e, true, false);
        }
    }

    private static long stateOf(TariffDesk desk) {
        long state = desk.fault();
        for (int what = 0; what <= 3; what++) {
            state = state * 31 + desk.count(what);
        }
        for (int month = 0; month < 24; month++) {
            state = state * 31 + desk.had(month);
        }
        for (int house = 0; house < 4; house++) {
            state = state * 31 + desk.group(house);
            for (int k = 0; k < 96; k++) {
                state = state * 31 + desk.use(house, k / 24, k % 24);
            }
        }
        for (int k = 0; k < desk.count(3); k++) {
            state = state * 31 + desk.octet(k);
        }
        return state;
    }

    private static void make(TariffDesk desk, int which) {
        switch (which) {
            case 0 -> desk.feed(number(), number(), number(), number(), number());
            case 1 -> desk.end(number());
            case 2 -> desk.plans();
            case 3 -> desk.fault();
            case 4 -> feedPlans(desk);
            case 5 -> desk.plan(number(), number());
            case 6 -> desk.name(number());
            case 7 -> desk.octet(number());
            case 8 -> desk.uses(number(), number(), number());
            case 9 -> desk.use(number(), number(), number());
            case 10 -> desk.change(number());
            case 11 -> desk.cost(number(), number(), number(), number());
            case 12 -> desk.bill(number(), number(), number(), DRAWN.nextLong());
            case 13 -> desk.best(number(), number(), number());
            case 14 -> desk.had(number());
            case 15 -> desk.bills();
            case 16 -> desk.group(number());
            case 17 -> desk.span(number(), number(), number());
            case 18 -> desk.above(number(), number(), DRAWN.nextBoolean());
            case 19 -> desk.count(number());
            default -> Check.uses(desk, number(), number(), number(), DRAWN.nextInt(9), DRAWN.nextInt(9));
        }
    }

    private static void feedPlans(TariffDesk desk) {
        desk.end(0);
        for (int k = DRAWN.nextInt(4); k >= 0; k--) {
            Check.feed(desk, TEXTS[DRAWN.nextInt(TEXTS.length)]);
        }
        desk.plans();
    }
}
