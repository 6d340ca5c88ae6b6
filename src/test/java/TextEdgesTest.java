import java.util.List;

/** The text of PLANS: a test for each sentence of the document's Terms that names an edge of it. */
public final class TextEdgesTest {
    private static final String HEAD = "plan a fee 5 ";
    private static final String PART = "plan a fee 5 for 0 ";
    private static final String[] WORDS = {"plan", "fee", "term", "from", "until", "for", "free", "to", "at", "rest"};

    public static void main(String[] args) {
        Check.sentence("PLANS are a text of at most 800 bytes", TextEdgesTest::mostBytes);
        Check.sentence("TOKENS, with blanks (32, 10) between them or not", TextEdgesTest::blanks);
        Check.sentence("NAMES: small letters, 1 to 8", TextEdgesTest::names);
        Check.sentence("NUMBERS: 1 to 6 digits", TextEdgesTest::digits);
        Check.sentence("A NAME, NUMBER goes on as long as small letters and digits do", TextEdgesTest::goesOn);
        Check.sentence("what is not as told is no TOKEN", TextEdgesTest::everySign);
        Check.sentence("The words .. are none of these where NAME stands below", TextEdgesTest::words);
        Check.sentence("TEXT: PLAN { PLAN }, at most 10", TextEdgesTest::tenPlans);
        Check.sentence("PLAN: 'plan' NAME 'fee' NUMBER ..", TextEdgesTest::planRule);
        Check.sentence("PART: 'for' NUMBER ..", TextEdgesTest::partRule);
        numbers();
        faults();
        Check.finish();
    }

    private static void numbers() {
        Check.sentence("Its fee (0 to 999999 cents a MONTH)", TextEdgesTest::fee);
        Check.sentence("its term (1 to 24 MONTHS, 1 without it)", TextEdgesTest::term);
        Check.sentence("the MONTHS in which it may begin (0 to 23", TextEdgesTest::beginning);
        Check.sentence("the second not below the first", TextEdgesTest::secondNotBelow);
        Check.sentence("all without it", TextEdgesTest::allMonths);
        Check.sentence("a SERVICE (0 to 3)", TextEdgesTest::service);
        Check.sentence("(a SERVICE) each once", TextEdgesTest::serviceOnce);
        Check.sentence("how many units are free (0 to 20000; 0 without it)", TextEdgesTest::free);
        Check.sentence("STEPS, 3 at most", TextEdgesTest::threeSteps);
        Check.sentence("units up to (1 to 20000", TextEdgesTest::stepEnd);
        Check.sentence("each above the one ahead", TextEdgesTest::stepAbove);
        Check.sentence("cents for each (0 to 9999)", TextEdgesTest::stepCents);
        Check.sentence("cents for each of the rest (0 to 9999)", TextEdgesTest::restCents);
    }

    private static void faults() {
        Check.sentence("FAULTS, the first along the text", TextEdgesTest::firstFault);
        Check.sentence("of one TOKEN the least", TextEdgesTest::leastKind);
        Check.sentence("1 no TOKEN (at it)", TextEdgesTest::noToken);
        Check.sentence("or one that can't come (at it)", TextEdgesTest::everyTokenEverywhere);
        Check.sentence("the end: how many bytes there are", TextEdgesTest::theEnd);
        Check.sentence("800, if there are more", TextEdgesTest::moreThan800);
        Check.sentence("and no FAULT is ahead", TextEdgesTest::faultAhead800);
        Check.sentence("TOKENS that begin ahead of it are read whole", TextEdgesTest::readWhole);
        Check.sentence("2 a NUMBER that is not as told (at it)", TextEdgesTest::kindTwo);
        Check.sentence("3 a NAME of a PLAN that is there (at it)", TextEdgesTest::nameThere);
        Check.sentence("a SERVICE told twice (at it)", TextEdgesTest::serviceTwice);
        Check.sentence("4 an 11th PLAN (at 'plan')", TextEdgesTest::eleventhPlan);
        Check.sentence("a fourth STEP (at 'to')", TextEdgesTest::fourthStep);
    }

    private static void dueFault(String text, int place, int kind) {
        Check.dueFault(new TariffDesk(), text, place, kind);
    }

    private static TariffDesk duePlans(String text, int plans) {
        TariffDesk desk = Check.deskWith(text, plans);
        Check.due("fault() of " + text, desk.fault(), 0);
        return desk;
    }

    /** Refused at the place of the NUMBER. */
    private static void dueWrongNumber(String ahead, String number, String behind) {
        dueFault(ahead + number + behind, ahead.length(), 2);
    }

    // --- the text and its TOKENS

    private static void mostBytes() {
        String text = "plan a fee 5;";
        duePlans(text + Check.blanks(786), 1);
        duePlans(text + Check.blanks(787), 1);
        duePlans(Check.blanks(787) + text, 1);
        dueFault(text + Check.blanks(788), 800, 1);
        dueFault(Check.blanks(788) + text, 800, 1);
        dueFault(text + Check.blanks(827), 800, 1);
    }

    private static void blanks() {
        duePlans("plan a fee 5;plan b fee 5;", 2);
        duePlans("plan a fee 5 ;\nplan b fee 5\n; ", 2);
        duePlans("\n\n plan \n a\nfee\n5\n;\n", 1);
        int[] others = {0, 8, 9, 11, 12, 13, 31, 33, 160};
        for (int other : others) {
            dueFault("plan a" + (char) other + "fee 5;", 6, 1);
            dueFault("plan a fee 5;" + (char) other, 13, 1);
            dueFault((char) other + "plan a fee 5;", 0, 1);
        }
    }

    private static void dueName(String name) {
        TariffDesk desk = duePlans("plan " + name + " fee 5;", 1);
        Check.due("name(0)", desk.name(0), name.length());
        for (int k = 0; k < name.length(); k++) {
            Check.due("octet(" + k + ")", desk.octet(k), name.charAt(k));
        }
    }

    private static void names() {
        dueName("a");
        dueName("z");
        dueName("az");
        dueName("zyxwvut");
        dueName("zzzzzzzz");
        dueName("abcdefgh");
        dueFault("plan abcdefghi fee 5;", 5, 1);
        dueFault("plan abcdefghijklmnopqrstuvwxyz fee 5;", 5, 1);
        dueFault("plan ;", 5, 1);
        dueFault("plan A fee 5;", 5, 1);
        dueFault("plan Z fee 5;", 5, 1);
        dueFault("plan ` fee 5;", 5, 1);
        dueFault("plan { fee 5;", 5, 1);
        // Words are of small letters, too.
        dueFault("Plan a fee 5;", 0, 1);
        dueFault("plan a FEE 5;", 7, 1);
    }

    private static void digits() {
        Check.due("0", duePlans("plan a fee 0;", 1).plan(0, 0), 0);
        Check.due("9", duePlans("plan a fee 9;", 1).plan(0, 0), 9);
        Check.due("123456", duePlans("plan a fee 123456;", 1).plan(0, 0), 123456);
        Check.due("000000", duePlans("plan a fee 000000;", 1).plan(0, 0), 0);
        Check.due("000024", duePlans("plan a fee 1 term 000024;", 1).plan(0, 1), 24);
        dueFault("plan a fee 0000000;", 11, 1);
        dueFault("plan a fee 0000005;", 11, 1);
        dueFault("plan a fee 1234567;", 11, 1);
        dueFault("plan a fee 4294967296;", 11, 1);
        dueFault("plan a fee 18446744073709551616;", 11, 1);
        dueFault("plan a fee 1 term 0000001;", 18, 1);
        dueFault("plan a fee ;", 11, 1);
        dueFault("plan a fee /;", 11, 1);
        dueFault("plan a fee :;", 11, 1);
        dueFault("plan a fee -1;", 11, 1);
        dueFault("plan a fee +1;", 11, 1);
    }

    private static void goesOn() {
        dueFault("plan a1 fee 5;", 5, 1);
        dueFault("plan 1a fee 5;", 5, 1);
        dueFault("plan abcdefgh1 fee 5;", 5, 1);
        dueFault("plana fee 5;", 0, 1);
        dueFault("plan a fee5;", 7, 1);
        dueFault("plan a fee 5term 2;", 11, 1);
        dueFault("plan a fee 5a;", 11, 1);
        dueFault("plan a fee a5;", 11, 1);
        dueFault("plan a fee 5;plan1 b fee 5;", 13, 1);
        dueFault(HEAD + "for0 rest 1;", 13, 1);
        // Another sign ends it, and is looked at by itself.
        duePlans("plan a fee 5;", 1);
        dueFault("plan aB fee 5;", 6, 1);
        dueFault("plan a_b fee 5;", 6, 1);
        dueFault("plan a fee 5.0;", 12, 1);
        dueFault("plan a fee 5,", 12, 1);
        dueFault("plan;", 4, 1);
    }

    /** Each byte where a TOKEN is due: at the start, where a NAME is, where a NUMBER is and behind all. */
    private static void everySign() {
        for (int sign = 0; sign < 256; sign++) {
            boolean blank = sign == 32 || sign == 10;
            boolean letter = sign >= 'a' && sign <= 'z';
            boolean digit = sign >= '0' && sign <= '9';
            char told = (char) sign;
            dueFault(told + "", blank ? 1 : 0, 1);
            dueFault("plan " + told, blank || letter ? 6 : 5, 1);
            dueFault("plan a fee " + told, blank || digit ? 12 : 11, 1);
            dueFault("plan a fee 5 " + told, blank || sign == ';' ? 14 : 13, sign == ';' ? 0 : 1, sign == ';');
            dueFault("plan a fee 5;" + told, 13, 1, blank);
        }
    }

    private static void dueFault(String text, int place, int kind, boolean whole) {
        if (whole) {
            duePlans(text, 1);
        } else {
            dueFault(text, place, kind);
        }
    }

    private static void words() {
        for (String word : WORDS) {
            dueFault("plan " + word + " fee 5;", 5, 1);
            dueFault("plan a fee 5;plan " + word + " fee 5;", 18, 1);
            dueName(word + "x");
            dueName("x" + word);
            dueName(word + word.charAt(0));
            dueName(word.substring(1));
            dueName(word.substring(0, word.length() - 1));
        }
    }

    private static void tenPlans() {
        dueFault("", 0, 1);
        dueFault("\n", 1, 1);
        for (int plans = 1; plans <= 10; plans++) {
            TariffDesk desk = duePlans(Check.manyPlans(plans), plans);
            Check.due("count(0)", desk.count(0), plans);
            Check.due("name of the last one", desk.name(plans - 1), 1);
            Check.due("its letter", desk.octet(0), 'a' + plans - 1);
        }
        dueFault(Check.manyPlans(11), 130, 4);
        dueFault(Check.manyPlans(12), 130, 4);
    }

    // --- the rules

    /** Every choice of what may be left out; what is told back is what stands there. */
    private static void planRule() {
        for (int choice = 0; choice < 128; choice++) {
            boolean term = (choice & 1) != 0;
            boolean begins = (choice & 2) != 0;
            int parts = choice >> 2 & 7;
            if (parts > 4) {
                continue;
            }
            String text = "plan b fee 77" + (term ? " term 3" : "") + (begins ? " from 4 until 6" : "")
                    + " for 2 rest 1 for 0 rest 1 for 3 rest 1 for 1 rest 1".substring(0, 13 * parts) + ";";
            TariffDesk desk = duePlans(text, 1);
            Check.due("fee of " + text, desk.plan(0, 0), 77);
            Check.due("term of " + text, desk.plan(0, 1), term ? 3 : 1);
            Check.due("from of " + text, desk.plan(0, 2), begins ? 4 : 0);
            Check.due("until of " + text, desk.plan(0, 3), begins ? 6 : 23);
            int[] bits = {0, 4, 5, 13, 15};
            Check.due("PARTS of " + text, desk.plan(0, 4), bits[parts]);
        }
        dueFault("plan a term 3 fee 5;", 7, 1);
        dueFault("plan a fee 5 from 1 until 2 term 3;", 28, 1);
        dueFault("plan a fee 5 for 0 rest 1 term 3;", 26, 1);
        dueFault("plan a fee 5 for 0 rest 1 from 1 until 2;", 26, 1);
        dueFault("plan a fee 5 plan b fee 5;", 13, 1);
        dueFault("plan a fee 5;;", 13, 1);
        dueFault("plan a fee 5", 12, 1);
    }

    private static void partRule() {
        for (int choice = 0; choice < 8; choice++) {
            int steps = choice >> 1;
            boolean free = (choice & 1) != 0;
            String text = PART + (free ? "free 3 " : "") + "to 2 at 1 to 4 at 10 to 6 at 100 ".substring(0, stepBytes(steps))
                    + "rest 1000;";
            TariffDesk desk = duePlans(text, 1);
            Check.uses(desk, 0, 0, 0, 10);
            int[] cents = {1000, 1000, 1, 1, 10, 10, 100, 100, 1000, 1000, 1000, 1000};
            long sum = 0;
            for (int unit = 0; unit < (free ? 7 : 10); unit++) {
                sum += unit < 2 * steps ? cents[unit / 2 * 2 + 2] : 1000;
            }
            Check.due("ten units by " + text, desk.cost(0, 1, 0, 2), sum);
        }
        dueFault(PART + ";", 19, 1);
        dueFault(PART + "to 2 at 1;", 28, 1);
        dueFault(PART + "to 2 at 1 free 3 rest 1;", 29, 1);
        dueFault(PART + "rest 1 to 2 at 1;", 26, 1);
        dueFault(PART + "rest 1 free 2;", 26, 1);
        dueFault(PART + "to 2 rest 1;", 24, 1);
        dueFault(PART + "at 2 to 1 rest 1;", 19, 1);
        dueFault(HEAD + "for rest 1;", 17, 1);
        dueFault(HEAD + "rest 1;", 13, 1);
    }

    private static int stepBytes(int steps) {
        int[] bytes = {0, 10, 21, 33};
        return bytes[steps];
    }

    // --- the numbers

    private static void fee() {
        Check.due("0", duePlans("plan a fee 0;", 1).plan(0, 0), 0);
        TariffDesk desk = duePlans("plan a fee 999999;", 1);
        Check.due("999999", desk.plan(0, 0), 999999);
        Check.due("a MONTH", desk.cost(0, 1, 0, 1), 999999);
        Check.due("24 MONTHS", desk.best(1, 0, 24), 24L * 999999);
        dueFault("plan a fee 1000000;", 11, 1);
    }

    private static void term() {
        Check.due("1", duePlans(HEAD + "term 1;", 1).plan(0, 1), 1);
        Check.due("24", duePlans(HEAD + "term 24;", 1).plan(0, 1), 24);
        Check.due("without it", duePlans(HEAD + ";", 1).plan(0, 1), 1);
        Check.due("without it, behind one with it",
                duePlans("plan b fee 5 term 7;" + HEAD + ";", 2).plan(1, 1), 1);
        dueWrongNumber(HEAD + "term ", "0", ";");
        dueWrongNumber(HEAD + "term ", "25", ";");
        dueWrongNumber(HEAD + "term ", "999999", ";");
    }

    private static void beginning() {
        TariffDesk whole = duePlans(HEAD + "from 0 until 23;", 1);
        Check.due("from", whole.plan(0, 2), 0);
        Check.due("until", whole.plan(0, 3), 23);
        TariffDesk last = duePlans(HEAD + "from 23 until 23;", 1);
        Check.due("from", last.plan(0, 2), 23);
        Check.due("until", last.plan(0, 3), 23);
        TariffDesk first = duePlans(HEAD + "from 0 until 0;", 1);
        Check.due("from", first.plan(0, 2), 0);
        Check.due("until", first.plan(0, 3), 0);
        dueWrongNumber(HEAD + "from ", "24", " until 24;");
        dueWrongNumber(HEAD + "from ", "999999", " until 1;");
        dueWrongNumber(HEAD + "from 0 until ", "24", ";");
        dueWrongNumber(HEAD + "from 23 until ", "24", ";");
    }

    private static void secondNotBelow() {
        for (int from = 0; from < 24; from++) {
            TariffDesk desk = duePlans(HEAD + "from " + from + " until " + from + ";", 1);
            Check.due("from", desk.plan(0, 2), from);
            Check.due("until", desk.plan(0, 3), from);
            if (from > 0) {
                dueWrongNumber(HEAD + "from " + from + " until ", from - 1 + "", ";");
                dueWrongNumber(HEAD + "from " + from + " until ", "0", ";");
            }
        }
    }

    private static void allMonths() {
        TariffDesk desk = duePlans("plan b fee 5 from 3 until 4;plan a fee 5;", 2);
        Check.due("from", desk.plan(1, 2), 0);
        Check.due("until", desk.plan(1, 3), 23);
        for (int month = 0; month < 24; month++) {
            Check.due("begins in " + month, duePlans(HEAD + ";", 1).best(1, month, month + 1), 5);
        }
    }

    private static void service() {
        for (int service = 0; service < 4; service++) {
            TariffDesk desk = duePlans(HEAD + "for " + service + " rest 1;", 1);
            Check.due("PART " + service, desk.plan(0, 4), 1 << service);
        }
        dueWrongNumber(HEAD + "for ", "4", " rest 1;");
        dueWrongNumber(HEAD + "for ", "999999", " rest 1;");
        dueWrongNumber(HEAD + "for 0 rest 1 for 1 rest 1 for 2 rest 1 for 3 rest 1 for ", "4", " rest 1;");
    }

    private static void serviceOnce() {
        for (int service = 0; service < 4; service++) {
            String once = HEAD + "for " + service + " rest 1 ";
            dueFault(once + "for " + service + " rest 1;", once.length() + 4, 3);
            dueFault(once + "for 00" + service + " rest 1;", once.length() + 4, 3);
            for (int other = 0; other < 4; other++) {
                if (other != service) {
                    duePlans(once + "for " + other + " rest 1;", 1);
                }
            }
            duePlans(once + ";plan b fee 1 for " + service + " rest 1;", 2);
        }
    }

    private static long centsOf(String text, int units) {
        TariffDesk desk = duePlans(text, 1);
        Check.uses(desk, 0, 0, 0, units);
        return desk.cost(0, 1, 0, 2);
    }

    private static void free() {
        Check.due("0", centsOf(PART + "free 0 rest 7;", 1), 7);
        Check.due("without it", centsOf(PART + "rest 7;", 1), 7);
        Check.due("without it, behind one with it", centsOf(
                "plan a fee 5 for 1 free 9 rest 1 for 0 rest 7;", 1), 7);
        Check.due("20000", centsOf(PART + "free 20000 rest 7;", 20000), 0);
        Check.due("19999", centsOf(PART + "free 19999 rest 7;", 20000), 7);
        dueWrongNumber(PART + "free ", "20001", " rest 7;");
        dueWrongNumber(PART + "free ", "999999", " rest 7;");
    }

    private static void threeSteps() {
        String three = PART + "to 1 at 1 to 2 at 10 to 3 at 100 ";
        Check.due("three", centsOf(three + "rest 1000;", 4), 1111);
        dueFault(three + "to 4 at 5 rest 1;", three.length(), 4);
        duePlans(three + "rest 1 for 1 to 1 at 1 to 2 at 1 to 3 at 1 rest 1;", 1);
        duePlans(three + "rest 1;plan b fee 1 for 0 to 1 at 1 to 2 at 1 to 3 at 1 rest 1;", 2);
    }

    private static void stepEnd() {
        Check.due("1", centsOf(PART + "to 1 at 7 rest 100;", 2), 107);
        Check.due("20000", centsOf(PART + "to 20000 at 1 rest 100;", 20000), 20000);
        Check.due("19999", centsOf(PART + "to 19999 at 1 rest 100;", 20000), 20099);
        dueWrongNumber(PART + "to ", "0", " at 1 rest 1;");
        dueWrongNumber(PART + "to ", "20001", " at 1 rest 1;");
        dueWrongNumber(PART + "to ", "999999", " at 1 rest 1;");
        dueWrongNumber(PART + "to 5 at 1 to ", "20001", " at 1 rest 1;");
        dueWrongNumber(PART + "to 20000 at 1 to ", "20001", " at 1 rest 1;");
        // The free ones do not count in it.
        duePlans(PART + "free 20000 to 1 at 1 to 20000 at 1 rest 1;", 1);
    }

    private static void stepAbove() {
        Check.due("one above", centsOf(PART + "to 5 at 1 to 6 at 10 to 7 at 100 rest 1000;", 8), 1115);
        dueWrongNumber(PART + "to 5 at 1 to ", "5", " at 1 rest 1;");
        dueWrongNumber(PART + "to 5 at 1 to ", "4", " at 1 rest 1;");
        dueWrongNumber(PART + "to 5 at 1 to ", "0", " at 1 rest 1;");
        dueWrongNumber(PART + "to 5 at 1 to 9 at 1 to ", "9", " at 1 rest 1;");
        dueWrongNumber(PART + "to 5 at 1 to 9 at 1 to ", "6", " at 1 rest 1;");
        dueWrongNumber(PART + "to 20000 at 1 to ", "20000", " at 1 rest 1;");
        // The first one of another PART, and of another PLAN, has none ahead.
        duePlans(PART + "to 20000 at 1 rest 1 for 1 to 1 at 1 rest 1;plan b fee 1 for 0 to 1 at 1 rest 1;", 2);
    }

    private static void stepCents() {
        Check.due("0", centsOf(PART + "to 3 at 0 rest 1;", 3), 0);
        Check.due("9999", centsOf(PART + "to 3 at 9999 rest 1;", 3), 29997);
        dueWrongNumber(PART + "to 3 at ", "10000", " rest 1;");
        dueWrongNumber(PART + "to 3 at ", "999999", " rest 1;");
        dueWrongNumber(PART + "to 3 at 1 to 4 at ", "10000", " rest 1;");
    }

    private static void restCents() {
        Check.due("0", centsOf(PART + "rest 0;", 3), 0);
        Check.due("9999", centsOf(PART + "rest 9999;", 3), 29997);
        dueWrongNumber(PART + "rest ", "10000", ";");
        dueWrongNumber(PART + "rest ", "999999", ";");
        dueWrongNumber(PART + "to 1 at 1 rest ", "10000", ";");
    }

    // --- the FAULTS

    /** Two FAULTS of unlike kinds each time, in both orders. */
    private static void firstFault() {
        dueFault("plan a fee 5 term 25 term", 18, 2);
        dueFault("plan a fee 5 term 25;plan a fee 5;", 18, 2);
        dueFault("plan a fee 5;plan a fee 5 term 25;", 18, 3);
        dueFault("plan a fee 5;plan a fee !", 18, 3);
        dueFault("plan a fee 5;plan b fee !;plan a", 24, 1);
        dueFault("plan a fee 5 for 0 rest 1 for 0 rest 10000;", 30, 3);
        dueFault("plan a fee 5 for 0 rest 10000 for 0 rest 1;", 24, 2);
        dueFault(Check.manyPlans(10) + "plan a fee 5;", 130, 4);
        dueFault(Check.manyPlans(9) + "plan a fee 5;plan k fee 5;", 122, 3);
        dueFault(Check.manyPlans(10) + "plan !", 130, 4);
        dueFault(PART + "to 1 at 1 to 2 at 1 to 3 at 1 to 3 at 10000 rest 1;", 49, 4);
        dueFault(PART + "to 1 at 1 to 2 at 1 to 3 at 10000 to 4 at 1 rest 1;", 47, 2);
        dueFault(PART + "to 1 at 1 to 2 at 1 to 3 at 1 to !", 49, 4);
    }

    /** A NUMBER of seven digits is not as told, too; a NAME that can't come may be like one that is there. */
    private static void leastKind() {
        dueFault(HEAD + "term 1000000;", 18, 1);
        dueFault(HEAD + "for 0000000 rest 1;", 17, 1);
        dueFault(HEAD + "for 0 rest 1 for 0000000 rest 1;", 30, 1);
        dueFault(PART + "rest 9999999;", 24, 1);
        // What is no NUMBER can't be one that is too small.
        dueFault(HEAD + "term !;", 18, 1);
        dueFault(HEAD + "term a;", 18, 1);
        dueFault(HEAD + "from 5 until !;", 26, 1);
        dueFault(HEAD + "from 5 until ;", 26, 1);
        dueFault(PART + "to !;", 22, 1);
        dueFault(PART + "to 5 at 1 to -1 at 1;", 32, 1);
        dueFault("plan abcdefgh fee 5;plan abcdefghi fee 5;", 25, 1);
        dueFault("plan a fee 5;plan a1 fee 5;", 18, 1);
        dueFault("plan a fee 5 a", 13, 1);
    }

    private static void noToken() {
        dueFault("!", 0, 1);
        dueFault("  !", 2, 1);
        dueFault("plan a fee 5;  .", 15, 1);
        dueFault("plan a fee 5;plan b !", 20, 1);
        dueFault("abcdefghi", 0, 1);
        dueFault(" 1234567", 1, 1);
        dueFault("plan a fee 5 a1", 13, 1);
        dueFault(PART + "rest 1 ?;", 26, 1);
    }

    /** Each TOKEN in each place of a long PLAN: where it can come, the FAULT is at the end, else at it. */
    private static void everyTokenEverywhere() {
        String[] row = {"plan", "a", "fee", "5", "term", "2", "from", "1", "until", "2", "for", "0", "free", "1", "to",
            "1", "at", "1", "rest", "1", ";", "plan"};
        String[] can = {"plan", "b", "fee", "2", "term from for ;", "2", "from for ;", "2", "until", "2", "for ;", "2",
            "free to rest", "2", "to rest", "2", "at", "2", "to rest", "2", "for ;", "plan"};
        String[] tokens = {"plan", "fee", "term", "from", "until", "for", "free", "to", "at", "rest", "b", "2", ";"};
        StringBuilder ahead = new StringBuilder();
        for (int k = 0; k < row.length; k++) {
            for (String token : tokens) {
                boolean comes = List.of(can[k].split(" ")).contains(token);
                String text = ahead + token;
                if (comes && token.equals(";")) {
                    duePlans(text, 1);
                } else {
                    dueFault(text, comes ? text.length() : ahead.length(), 1);
                }
            }
            ahead.append(row[k]).append(' ');
        }
        // Behind a second or third PART and STEP the same can come.
        dueFault(PART + "rest 1 for 1 rest 1 rest", 39, 1);
        dueFault(PART + "to 1 at 1 to 2 at 1 at", 39, 1);
        dueFault(PART + "to 1 at 1 to 2 at 1 to 3 at 1 at", 49, 1);
        dueFault(PART + "to 1 at 1 to 2 at 1 to 3 at 1 ;", 49, 1);
    }

    private static void theEnd() {
        dueFault("", 0, 1);
        dueFault(" ", 1, 1);
        dueFault("plan a fee 5 ", 13, 1);
        dueFault("plan a fee 5\n\n\n", 15, 1);
        dueFault("plan a fee 5;plan", 17, 1);
        dueFault("plan a fee 5;plan    ", 21, 1);
        dueFault(Check.blanks(799), 799, 1);
        dueFault(Check.blanks(800), 800, 1);
        dueFault("plan a fee 5" + Check.blanks(788), 800, 1);
        dueFault(Check.blanks(796) + "plan", 800, 1);
        String[] row = {"plan", "a", "fee", "5", "term", "2", "from", "1", "until", "2", "for", "0", "free", "1", "to",
            "1", "at", "1", "rest", "1"};
        StringBuilder text = new StringBuilder();
        for (String token : row) {
            dueFault(text.append(token).toString(), text.length(), 1);
            dueFault(text.append(' ').toString(), text.length(), 1);
        }
    }

    private static void moreThan800() {
        String text = "plan a fee 5;";
        for (int bytes = 801; bytes <= 840; bytes++) {
            dueFault(text + Check.blanks(bytes - 13), 800, 1);
            dueFault(Check.blanks(bytes), 800, 1);
            dueFault(text + Check.blanks(787) + "!".repeat(bytes - 800), 800, 1);
            dueFault(text + Check.blanks(787) + ";".repeat(bytes - 800), 800, 1);
        }
        dueFault(text + Check.blanks(788) + "plan b fee 5;", 800, 1);
        // PLANS that are whole at 800, and a fault of another kind that begins there.
        dueFault(Check.manyPlans(10) + Check.blanks(670) + "plan k fee 5;", 800, 1);
        dueFault(text + Check.blanks(782) + "plan a", 800, 1);
        dueFault(HEAD + Check.blanks(783) + "term25;", 796, 1);
        dueFault(HEAD + Check.blanks(782) + "term 25;", 800, 1);
    }

    private static void faultAhead800() {
        String behind = Check.blanks(840);
        String[] texts = {"fee", "plan a fee 5 term 25;", "plan a fee 5;plan a fee 5;", Check.manyPlans(11)};
        int[] places = {0, 18, 18, 130};
        for (int kind = 1; kind <= 4; kind++) {
            dueFault((texts[kind - 1] + behind).substring(0, 801), places[kind - 1], kind);
            dueFault((texts[kind - 1] + behind).substring(0, 840), places[kind - 1], kind);
        }
        dueFault(Check.blanks(799) + "!!", 799, 1);
        dueFault(HEAD + ";" + Check.blanks(785) + ";;", 799, 1);
    }

    private static void readWhole() {
        String text = "plan a fee 5;";
        // 'plan' stands at 794: its NAME begins at 799 and goes on beyond 800.
        dueFault(text + Check.blanks(781) + "plan bcdefghi fee 5;", 800, 1);
        dueFault(text + Check.blanks(781) + "plan bcdefghij fee 5;", 799, 1);
        dueFault(text + Check.blanks(781) + "plan b1 fee 5;", 799, 1);
        dueFault("plan ab fee 5;" + Check.blanks(780) + "plan ab fee 5;", 799, 3);
        dueFault(text + Check.blanks(781) + "plan ab fee 5;", 800, 1);
        dueFault(text + Check.blanks(781) + "plan free", 799, 1);
        dueFault(text + Check.blanks(781) + "plan freed", 800, 1);
        // A NUMBER that begins at 799.
        dueFault(HEAD + "term" + Check.blanks(782) + "24;", 800, 1);
        dueFault(HEAD + "term" + Check.blanks(782) + "25;", 799, 2);
        dueFault(HEAD + "term" + Check.blanks(782) + "1234567;", 799, 1);
        dueFault("plan a fee" + Check.blanks(789) + "999999;", 800, 1);
        // A word that begins at 799.
        dueFault(Check.blanks(799) + "plan a fee 5;", 800, 1);
        dueFault(Check.blanks(799) + "plans a fee 5;", 799, 1);
        dueFault(Check.manyPlans(10) + Check.blanks(669) + "plan", 799, 4);
        dueFault(Check.manyPlans(10) + Check.blanks(669) + "plans", 799, 1);
        String steps = PART + "to 1 at 1 to 2 at 1 to 3 at 1";
        dueFault(steps + Check.blanks(799 - steps.length()) + "to 4", 799, 4);
        dueFault(steps + Check.blanks(799 - steps.length()) + "rest 1;", 800, 1);
    }

    private static void kindTwo() {
        String[] ahead = {HEAD + "term ", HEAD + "from ", HEAD + "from 5 until ", HEAD + "from 5 until ", HEAD + "for ",
            PART + "free ", PART + "to ", PART + "to ", PART + "to 5 at 1 to ", PART + "to 5 at ", PART + "rest "};
        String[] wrong = {"25", "24", "4", "24", "4", "20001", "0", "20001", "5", "10000", "10000"};
        for (int k = 0; k < ahead.length; k++) {
            dueFault(ahead[k] + wrong[k], ahead[k].length(), 2);
            dueFault(ahead[k] + "  \n" + wrong[k], ahead[k].length() + 3, 2);
            dueFault("plan b fee 1;" + ahead[k] + wrong[k], ahead[k].length() + 13, 2);
        }
    }

    private static void nameThere() {
        for (int p = 0; p < 9; p++) {
            String name = (char) ('a' + p) + "";
            dueFault(Check.manyPlans(9) + "plan " + name + " fee 5;", 122, 3);
            dueFault(Check.manyPlans(9) + "plan\n\n " + name, 124, 3);
        }
        dueFault("plan abcdefgh fee 5;plan abcdefgh fee 5;", 25, 3);
        duePlans("plan abcdefgh fee 5;plan abcdefgi fee 5;plan bbcdefgh fee 5;plan abcdefg fee 5;", 4);
        duePlans("plan a fee 5;plan aa fee 5;plan b fee 5;plan ab fee 5;plan ba fee 5;", 5);
        // Only those of this text are there.
        TariffDesk desk = duePlans("plan a fee 5;plan b fee 6;", 2);
        Check.due("the same NAMES again", Check.plans(desk, "plan b fee 5;plan a fee 6;"), 2);
        Check.dueFault(desk, "plan c fee 5;plan d fee !", 24, 1);
        Check.due("NAMES of a text with a FAULT", Check.plans(desk, "plan d fee 5;plan c fee 6;"), 2);
    }

    private static void serviceTwice() {
        dueFault(HEAD + "for 0 rest 1 for 0", 30, 3);
        dueFault(HEAD + "for 3 rest 1 for  3", 31, 3);
        dueFault(HEAD + "for 3 rest 1 for 000003", 30, 3);
        dueFault(HEAD + "for 0 rest 1 for 1 rest 1 for 2 rest 1 for 3 rest 1 for 0", 69, 3);
        dueFault(HEAD + "for 0 rest 1 for 1 rest 1 for 2 rest 1 for 3 rest 1 for 2", 69, 3);
        dueFault(HEAD + "for 2 rest 1;plan b fee 5 for 2 rest 1 for 2", 56, 3);
    }

    private static void eleventhPlan() {
        dueFault(Check.manyPlans(10) + "plan", 130, 4);
        dueFault(Check.manyPlans(10) + "\n plan k fee 5;", 132, 4);
        dueFault(Check.manyPlans(10) + "plan a fee 5;", 130, 4);
        dueFault(Check.manyPlans(10) + "fee", 130, 1);
        dueFault(Check.manyPlans(10) + "k", 130, 1);
        dueFault(Check.manyPlans(9) + "plan", 121, 1);
        // The PLANS that are there from an earlier text do not count.
        TariffDesk desk = duePlans(Check.manyPlans(10), 10);
        Check.due("ten more", Check.plans(desk, Check.manyPlans(10)), 10);
    }

    private static void fourthStep() {
        String three = PART + "to 1 at 1 to 2 at 1 to 3 at 1 ";
        dueFault(three + "to", 49, 4);
        dueFault(three + "\nto 4 at 1 rest 1;", 50, 4);
        dueFault(three + "to 0", 49, 4);
        dueFault(three + "to to", 49, 4);
        dueFault(PART + "free 7 to 1 at 1 to 2 at 1 to 3 at 1 to", 56, 4);
        dueFault(three + "rest 1 for 1 to 1 at 1 to 2 at 1 to 3 at 1 to 4 at 1 rest 1;", 92, 4);
        duePlans(three + "rest 1;", 1);
    }
}
