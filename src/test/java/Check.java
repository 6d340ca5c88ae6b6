import java.nio.charset.StandardCharsets;
import java.util.NoSuchElementException;

/** What the tests share: counting wrong answers, and feeding a desk with texts and numbers. */
final class Check {
    interface Call {
        long answer();
    }

    private static int wrong = 0;
    private static int wrongHere = 0;
    private static String sentence = "";

    private Check() {
    }

    /** A test of its own for a sentence of the document: what is wrong in it is told with the sentence. */
    static void sentence(String words, Runnable test) {
        sentence = "[" + words + "] ";
        wrongHere = 0;
        try {
            test.run();
        } catch (RuntimeException e) {
            tellWrong("threw " + e);
        }
        sentence = "";
    }

    static void due(String call, long got, long want) {
        if (got != want) {
            tellWrong(call + " answered " + got + ", due is " + want);
        }
    }

    static void due(String call, boolean got, boolean want) {
        if (got != want) {
            tellWrong(call + " answered " + got + ", due is " + want);
        }
    }

    static void dueThrown(String call, Call made) {
        try {
            tellWrong(call + " answered " + made.answer() + ", due is NoSuchElementException");
        } catch (NoSuchElementException e) {
            return;
        }
    }

    private static void tellWrong(String text) {
        wrong++;
        wrongHere++;
        if (wrongHere <= 20) {
            System.out.println(sentence + text);
        }
    }

    static void finish() {
        System.out.println(wrong == 0 ? "all answers are as due" : wrong + " answers are not as due");
        if (wrong != 0) {
            System.exit(1);
        }
    }

    static void feed(TariffDesk desk, byte[] bytes) {
        int had = desk.count(2);
        for (int at = 0; at < bytes.length; at += 20) {
            int[] five = new int[5];
            for (int k = 0; k < 20; k++) {
                int value = at + k < bytes.length ? bytes[at + k] & 255 : 0;
                five[k / 4] |= value << 24 - 8 * (k % 4);
            }
            due("feed", desk.feed(five[0], five[1], five[2], five[3], five[4]), had + at + 20);
        }
        due("end", desk.end(had + bytes.length), true);
    }

    static void feed(TariffDesk desk, String text) {
        feed(desk, text.getBytes(StandardCharsets.ISO_8859_1));
    }

    static int plans(TariffDesk desk, String text) {
        feed(desk, text);
        return desk.plans();
    }

    /** A new desk that has the PLANS of the text. */
    static TariffDesk deskWith(String text, int plans) {
        TariffDesk desk = new TariffDesk();
        due("plans() of " + text, plans(desk, text), plans);
        return desk;
    }

    static int uses(TariffDesk desk, int house, int service, int month, int... units) {
        byte[] bytes = new byte[2 * units.length];
        for (int k = 0; k < units.length; k++) {
            bytes[2 * k] = (byte) (units[k] >> 8);
            bytes[2 * k + 1] = (byte) units[k];
        }
        feed(desk, bytes);
        return desk.uses(house, service, month);
    }

    static void dueFault(TariffDesk desk, String text, int place, int kind) {
        due("plans() of " + text, plans(desk, text), -1 - place);
        due("fault() behind " + text, desk.fault(), kind);
    }

    static void dueRow(TariffDesk desk, int from, int... plans) {
        for (int month = 0; month < 24; month++) {
            boolean within = month >= from && month < from + plans.length;
            due("had(" + month + ")", desk.had(month), within ? plans[month - from] : TariffDesk.NONE);
        }
    }

    static void dueGroups(TariffDesk desk, int... groups) {
        for (int house = 0; house < 4; house++) {
            due("group(" + house + ")", desk.group(house), groups[house]);
        }
    }

    /** So many PLANS, named a, b, c and so on, of thirteen bytes each. */
    static String manyPlans(int count) {
        StringBuilder text = new StringBuilder();
        for (int k = 0; k < count; k++) {
            text.append("plan ").append((char) ('a' + k)).append(" fee 5;");
        }
        return text.toString();
    }

    static String blanks(int count) {
        return " ".repeat(count);
    }
}
