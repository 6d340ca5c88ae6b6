import java.util.NoSuchElementException;
import java.util.Random;

/**
 * Calls in any order with any numbers: none throws but those that may. A second desk gets all calls but those that
 * threw, and must answer the same: what throws changes nothing.
 */
public final class WildTest {
    private static final Random DRAWN = new Random(7);
    private static final int[] NUMBERS = {0, 1, 2, 3, 4, 5, 6, 7, 8, 9, 10, 11, 15, 16, 20, 22, 23, 24, 25, 31, 32, -1, -2,
        799, 800, 801, 840, 841, 20000, 20001, 100000, 100001, 1 << 16, 1 << 30, 1 << 31, Integer.MAX_VALUE,
        Integer.MAX_VALUE - 1, Integer.MIN_VALUE + 1};
    private static final String[] TEXTS = {"plan a fee 5;", "plan b fee 3 term 3 from 1 until 8 for 0 free 2 to 3 at 4 rest 5;",
        "plan c fee 1 for 0 rest 9 for 1 rest 2 for 2 to 4 at 1 rest 3 for 3 rest 0;", "plan", " ", "plan a fee 7 for 0"};
    /** No answer is this one, but of a bill by chance. */
    private static final long THROWN = Long.MIN_VALUE;
    private static final String MAY_THROW = "plan octet cost bill above";
    private static final String[] NAMES = {"feed", "end", "plans", "fault", "texts", "plan", "name", "octet", "uses", "use",
        "change", "cost", "bill", "best", "had", "bills", "group", "span", "above", "count", "units"};

    private static final int[] args = new int[5];
    private static long cents;
    private static boolean greatest;

    public static void main(String[] none) {
        for (int run = 0; run < 3000; run++) {
            TariffDesk desk = new TariffDesk();
            TariffDesk second = new TariffDesk();
            // A desk has 512 calls; the dearest turn makes some thirty.
            for (int calls = 0; calls < 470;) {
                calls += oneTurn(desk, second);
            }
        }
        Check.finish();
    }

    private static int number() {
        int kind = DRAWN.nextInt(10);
        return kind < 6 ? DRAWN.nextInt(6) : kind < 9 ? NUMBERS[DRAWN.nextInt(NUMBERS.length)] : DRAWN.nextInt();
    }

    private static int oneTurn(TariffDesk desk, TariffDesk second) {
        int which = DRAWN.nextInt(NAMES.length);
        for (int k = 0; k < args.length; k++) {
            args[k] = number();
        }
        cents = DRAWN.nextLong();
        greatest = DRAWN.nextBoolean();
        String name = NAMES[which];
        long answer = answerOf(desk, name);
        if (answer != THROWN) {
            Check.due(name + " without the calls that threw", answerOf(second, name), answer);
        }
        return name.equals("texts") ? 32 : name.equals("units") ? 5 : 1;
    }

    private static long answerOf(TariffDesk desk, String name) {
        try {
            return make(desk, name);
        } catch (NoSuchElementException e) {
            Check.due(name + " may throw", MAY_THROW.contains(name), true);
        } catch (RuntimeException e) {
            Check.due(name + " threw " + e, true, false);
        }
        return THROWN;
    }

    private static long make(TariffDesk desk, String name) {
        return switch (name) {
            case "feed" -> desk.feed(args[0], args[1], args[2], args[3], args[4]);
            case "end" -> desk.end(args[0]) ? 1 : 0;
            case "plans" -> desk.plans();
            case "fault" -> desk.fault();
            case "texts" -> feedTexts(desk);
            case "plan" -> desk.plan(args[0], args[1]);
            case "name" -> desk.name(args[0]);
            case "octet" -> desk.octet(args[0]);
            case "uses" -> desk.uses(args[0], args[1], args[2]);
            case "use" -> desk.use(args[0], args[1], args[2]);
            case "change" -> desk.change(args[0]) ? 1 : 0;
            case "cost" -> desk.cost(args[0], args[1], args[2], args[3]);
            case "bill" -> desk.bill(args[0], args[1], args[2], cents);
            case "best" -> desk.best(args[0], args[1], args[2]);
            case "had" -> desk.had(args[0]);
            case "bills" -> desk.bills();
            case "group" -> desk.group(args[0]);
            case "span" -> desk.span(args[0], args[1], args[2]) ? 1 : 0;
            case "above" -> desk.above(args[0], args[1], greatest);
            case "count" -> desk.count(args[0]);
            default -> feedUnits(desk);
        };
    }

    private static long feedTexts(TariffDesk desk) {
        desk.end(0);
        for (int k = Math.floorMod(args[0], 4); k >= 0; k--) {
            Check.feed(desk, TEXTS[Math.floorMod(args[k], TEXTS.length)]);
        }
        return desk.plans();
    }

    private static long feedUnits(TariffDesk desk) {
        desk.end(0);
        return Check.uses(desk, args[0], args[1], args[2], Math.floorMod(args[3], 9), Math.floorMod(args[4], 9));
    }
}
