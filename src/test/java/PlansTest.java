/** Promises 4 plans, 5 fault, 6 plan, 7 name and 8 octet. */
public final class PlansTest {
    private static final String HEAD = "plan a fee 5 ";
    private static final String PART = "plan a fee 5 for 0 ";

    public static void main(String[] args) {
        whole();
        blanksAndSigns();
        names();
        endsOfText();
        tokensThatCantCome();
        noTokens();
        numbers();
        thereAlready();
        tooMany();
        longTexts();
        whatStays();
        out();
        Check.finish();
    }

    private static void duePlan(TariffDesk desk, int p, int... want) {
        for (int what = 0; what < want.length; what++) {
            Check.due("plan(" + p + ", " + what + ")", desk.plan(p, what), want[what]);
        }
    }

    private static void whole() {
        TariffDesk desk = Check.deskWith("plan low fee 0;plan all fee 999999 term 24 from 0 until 23 for 3 free 20000 "
                + "to 1 at 0 to 2 at 9999 to 20000 at 1 rest 9999 for 0 rest 0 for 2 free 0 rest 1 for 1 rest 2;"
                + "plan part fee 12 from 5 until 5 for 2 rest 1;plan t fee 1 term 1;", 4);
        duePlan(desk, 0, 0, 1, 0, 23, 0);
        duePlan(desk, 1, 999999, 24, 0, 23, 15);
        duePlan(desk, 2, 12, 1, 5, 5, 4);
        duePlan(desk, 3, 1, 1, 0, 23, 0);
        Check.due("fault()", desk.fault(), 0);
        int[] wrongPlans = {-1, 4, 10, Integer.MAX_VALUE, Integer.MIN_VALUE};
        for (int p : wrongPlans) {
            Check.dueThrown("plan(" + p + ", 0)", () -> desk.plan(p, 0));
        }
        int[] wrongWhats = {-1, 5, Integer.MAX_VALUE, Integer.MIN_VALUE};
        for (int what : wrongWhats) {
            Check.dueThrown("plan(0, " + what + ")", () -> desk.plan(0, what));
        }
    }

    private static void blanksAndSigns() {
        TariffDesk desk = Check.deskWith("\n plan\na fee\n\n5 ;\n", 1);
        duePlan(desk, 0, 5);
        Check.deskWith("plan a fee 000005;plan b fee 1\n;plan c fee 2;  ", 3);
        Check.dueFault(desk, "plan\ta fee 5;", 4, 1);
        Check.dueFault(desk, "plan a fee 5;\r", 13, 1);
        Check.dueFault(desk, "plan a fee 5;\0", 13, 1);
        Check.dueFault(desk, "plan a fee 5.", 12, 1);
        Check.dueFault(desk, "plan a fee -5;", 11, 1);
        Check.dueFault(desk, "plan A fee 5;", 5, 1);
        Check.dueFault(desk, "plan \u00e9 fee 5;", 5, 1);
        Check.dueFault(desk, "plan ` fee 5;", 5, 1);
        Check.dueFault(desk, "plan { fee 5;", 5, 1);
        Check.dueFault(desk, "plan a fee /;", 11, 1);
        Check.dueFault(desk, "plan a fee :;", 11, 1);
        Check.dueFault(desk, "plan a fee 5;;", 13, 1);
    }

    private static void names() {
        TariffDesk desk = Check.deskWith("plan abcdefgh fee 1;plan abcdefgi fee 1;plan z fee 1;plan plans fee 1;"
                + "plan pla fee 1;plan fees fee 1;", 6);
        Check.due("name(0)", desk.name(0), 8);
        Check.dueFault(desk, "plan abcdefghi fee 1;", 5, 1);
        String[] words = {"plan", "fee", "term", "from", "until", "for", "free", "to", "at", "rest"};
        for (String word : words) {
            Check.dueFault(desk, "plan " + word + " fee 1;", 5, 1);
            Check.due("a longer NAME", Check.plans(desk, "plan " + word + "s fee 1;"), 1);
            Check.due("a shorter NAME", Check.plans(desk, "plan " + word.substring(1) + " fee 1;"), 1);
        }
        Check.dueFault(desk, "plan 5 fee 1;", 5, 1);
        Check.dueFault(desk, "plan ; fee 1;", 5, 1);
        Check.dueFault(desk, "plan a1 fee 1;", 5, 1);
        Check.dueFault(desk, "plan 1a fee 1;", 5, 1);
    }

    private static void endsOfText() {
        TariffDesk desk = new TariffDesk();
        String text = "plan a fee 5 term 2 from 1 until 2 for 0 free 1 to 1 at 1 rest 1 ";
        for (int n = 0; n <= text.length(); n++) {
            // A word that is cut can't come; where all are whole, the FAULT is at the end.
            boolean cutsWord = n > 0 && n < text.length() && text.charAt(n) != ' ' && text.charAt(n - 1) != ' ';
            int place = cutsWord ? text.lastIndexOf(' ', n) + 1 : n;
            Check.dueFault(desk, text.substring(0, n), place, 1);
        }
        Check.due("with its sign", Check.plans(desk, text + ";"), 1);
        Check.dueFault(desk, "   ", 3, 1);
        Check.dueFault(desk, "plan a fee 5;plan  \n", 20, 1);
    }

    private static void tokensThatCantCome() {
        TariffDesk desk = new TariffDesk();
        Check.dueFault(desk, "a", 0, 1);
        Check.dueFault(desk, ";", 0, 1);
        Check.dueFault(desk, "5", 0, 1);
        Check.dueFault(desk, "fee", 0, 1);
        Check.dueFault(desk, "plan a b", 7, 1);
        Check.dueFault(desk, "plan a ;", 7, 1);
        Check.dueFault(desk, "plan a term 1 fee 5;", 7, 1);
        Check.dueFault(desk, "plan a fee fee", 11, 1);
        Check.dueFault(desk, "plan a fee ;", 11, 1);
        Check.dueFault(desk, HEAD + "6;", 13, 1);
        Check.dueFault(desk, HEAD + "b;", 13, 1);
        Check.dueFault(desk, HEAD + "fee 5;", 13, 1);
        Check.dueFault(desk, HEAD + "until 5;", 13, 1);
        Check.dueFault(desk, HEAD + "free 5;", 13, 1);
        Check.dueFault(desk, HEAD + "term ;", 18, 1);
        Check.dueFault(desk, HEAD + "term 2 term 2;", 20, 1);
        Check.dueFault(desk, HEAD + "from 1 for 0 rest 1;", 20, 1);
        Check.dueFault(desk, HEAD + "from 1 until ;", 26, 1);
        Check.dueFault(desk, HEAD + "from 1 until 2 from 1 until 2;", 28, 1);
        Check.dueFault(desk, HEAD + "from 1 until 2 term 1;", 28, 1);
        Check.dueFault(desk, HEAD + "for a rest 1;", 17, 1);
        Check.dueFault(desk, PART + "at 1 rest 1;", 19, 1);
        Check.dueFault(desk, PART + "free 1 free 1 rest 1;", 26, 1);
        Check.dueFault(desk, PART + "free 1;", 25, 1);
        Check.dueFault(desk, PART + "for 1 rest 1;", 19, 1);
        Check.dueFault(desk, PART + "to 1 rest 1;", 24, 1);
        Check.dueFault(desk, PART + "to 1 to 2 at 1 rest 1;", 24, 1);
        Check.dueFault(desk, PART + "to 1 at 1;", 28, 1);
        Check.dueFault(desk, PART + "to 1 at 1 at 1 rest 1;", 29, 1);
        Check.dueFault(desk, PART + "to 1 at 1 free 1 rest 1;", 29, 1);
        Check.dueFault(desk, PART + "rest ;", 24, 1);
        Check.dueFault(desk, PART + "rest 1 to 1 at 1;", 26, 1);
        Check.dueFault(desk, PART + "rest 1 rest 1;", 26, 1);
        Check.dueFault(desk, PART + "rest 1 plan b fee 1;", 26, 1);
        Check.dueFault(desk, PART + "rest 1; a", 27, 1);
    }

    private static void noTokens() {
        TariffDesk desk = new TariffDesk();
        Check.dueFault(desk, "plan a fee 1234567;", 11, 1);
        Check.dueFault(desk, "plan a fee 0000001;", 11, 1);
        Check.dueFault(desk, "plan a fee 99999999999999999999999;", 11, 1);
        Check.dueFault(desk, "plan a fee5;", 7, 1);
        Check.dueFault(desk, "plan a fee 5term 3;", 11, 1);
        Check.dueFault(desk, "plana fee 5;", 0, 1);
        Check.dueFault(desk, "plan a fee 5;planb fee 5;", 13, 1);
        // The last letters of a longer one are a word's.
        Check.dueFault(desk, "aaaaplan a fee 5;", 0, 1);
        Check.dueFault(desk, "aaaaaaaaplan a fee 5;", 0, 1);
    }

    private static void dueNumber(String ahead, int least, int greatest, String behind) {
        TariffDesk desk = new TariffDesk();
        Check.due(ahead + least, Check.plans(desk, ahead + least + behind), 1);
        Check.due(ahead + greatest, Check.plans(desk, ahead + greatest + behind), 1);
        if (least > 0) {
            Check.dueFault(desk, ahead + (least - 1) + behind, ahead.length(), 2);
        }
        Check.dueFault(desk, ahead + (greatest + 1) + behind, ahead.length(), greatest == 999999 ? 1 : 2);
    }

    private static void numbers() {
        dueNumber("plan a fee ", 0, 999999, ";");
        dueNumber(HEAD + "term ", 1, 24, ";");
        dueNumber(HEAD + "from ", 0, 23, " until 23;");
        dueNumber(HEAD + "from 0 until ", 0, 23, ";");
        dueNumber(HEAD + "from 7 until ", 7, 23, ";");
        dueNumber(HEAD + "for ", 0, 3, " rest 1;");
        dueNumber(PART + "free ", 0, 20000, " rest 1;");
        dueNumber(PART + "to ", 1, 20000, " at 1 rest 1;");
        dueNumber(PART + "to 5 at 1 to ", 6, 20000, " at 1 rest 1;");
        dueNumber(PART + "to 5 at 1 to 9 at 1 to ", 10, 20000, " at 1 rest 1;");
        dueNumber(PART + "to 5 at ", 0, 9999, " rest 1;");
        dueNumber(PART + "rest ", 0, 9999, ";");
        // The steps of one PART say nothing of another one's.
        Check.deskWith(PART + "to 500 at 1 rest 1 for 1 to 1 at 1 rest 1;", 1);
        // The FAULT that stands first is told, not the least kind.
        Check.dueFault(new TariffDesk(), HEAD + "term 99 term", 18, 2);
    }

    private static void thereAlready() {
        TariffDesk desk = new TariffDesk();
        Check.dueFault(desk, "plan a fee 5;plan a fee 5;", 18, 3);
        Check.dueFault(desk, "plan a fee 5;plan b fee 5;plan c fee 5;plan b", 44, 3);
        Check.due("NAMES that begin alike", Check.plans(desk, "plan a fee 5;plan aa fee 5;plan aaa fee 5;"), 3);
        Check.due("the NAMES of PLANS read earlier do not count", Check.plans(desk, "plan a fee 5;"), 1);
        Check.dueFault(desk, PART + "rest 1 for 0 rest 1;", 30, 3);
        Check.dueFault(desk, PART + "rest 1 for 1 rest 1 for 2 rest 1 for 3 rest 1 for 3", 69, 3);
        Check.dueFault(desk, PART + "rest 1 for 1 rest 1 for 2 rest 1 for 3 rest 1 for 4", 69, 2);
        Check.due("a SERVICE in two PLANS", Check.plans(desk, "plan a fee 5 for 1 rest 1;plan b fee 5 for 1 rest 1;"), 2);
    }

    private static void tooMany() {
        TariffDesk desk = Check.deskWith(Check.manyPlans(10), 10);
        duePlan(desk, 9, 5, 1, 0, 23, 0);
        Check.dueFault(desk, Check.manyPlans(11), 130, 4);
        Check.dueFault(desk, Check.manyPlans(10) + " plan", 131, 4);
        Check.dueFault(desk, Check.manyPlans(10) + "fee", 130, 1);
        Check.dueFault(desk, Check.manyPlans(10) + "plana", 130, 1);
        Check.dueFault(desk, PART + "to 1 at 1 to 2 at 1 to 3 at 1 to", 49, 4);
        Check.dueFault(desk, PART + "to 1 at 1 to 2 at 1 to 3 at 1 to 1", 49, 4);
        Check.deskWith(PART + "to 1 at 1 to 2 at 1 to 3 at 1 rest 1 for 1 to 1 at 1 to 2 at 1 to 3 at 1 rest 1;", 1);
    }

    private static void longTexts() {
        String text = "plan a fee 5;";
        Check.due("800 bytes", Check.plans(new TariffDesk(), text + Check.blanks(787)), 1);
        Check.dueFault(new TariffDesk(), text + Check.blanks(788), 800, 1);
        Check.dueFault(new TariffDesk(), text + Check.blanks(827), 800, 1);
        Check.dueFault(new TariffDesk(), Check.blanks(787) + text + "\0", 800, 1);
        Check.dueFault(new TariffDesk(), Check.blanks(840), 800, 1);
        Check.dueFault(new TariffDesk(), Check.blanks(800), 800, 1);
        Check.dueFault(new TariffDesk(), Check.blanks(799), 799, 1);
        Check.dueFault(new TariffDesk(), Check.blanks(799) + "plan a fee 5;", 800, 1);
        Check.dueFault(new TariffDesk(), Check.blanks(799) + "fee", 799, 1);
        Check.dueFault(new TariffDesk(), Check.blanks(800) + "fee", 800, 1);
        Check.dueFault(new TariffDesk(), text + Check.blanks(780) + "plan abcdefgh", 800, 1);
        Check.dueFault(new TariffDesk(), text + Check.blanks(780) + "plan abcdefghi", 798, 1);
        Check.dueFault(new TariffDesk(), text + Check.blanks(780) + "plan  a", 799, 3);
        Check.dueFault(new TariffDesk(), text + Check.blanks(781) + "plan a", 799, 3);
        Check.dueFault(new TariffDesk(), text + Check.blanks(781) + "plan  a", 800, 1);
        Check.dueFault(new TariffDesk(), text + Check.blanks(780) + "plan a", 798, 3);
        Check.dueFault(new TariffDesk(), text + Check.blanks(780) + "plan a  ", 798, 3);
        Check.dueFault(new TariffDesk(), text + Check.blanks(780) + "plan aa ", 800, 1);
        Check.dueFault(new TariffDesk(), text + Check.blanks(775) + "plan b fee 999999;", 800, 1);
        Check.dueFault(new TariffDesk(), Check.manyPlans(10) + Check.blanks(669) + "plan", 799, 4);
        Check.dueFault(new TariffDesk(), Check.manyPlans(10) + Check.blanks(670) + "plan", 800, 1);
        Check.dueFault(new TariffDesk(), PART + "free " + Check.blanks(775) + "30000 rest 1;", 799, 2);
        Check.dueFault(new TariffDesk(), PART + "free " + Check.blanks(776) + "30000 rest 1;", 800, 1);
    }

    private static void whatStays() {
        TariffDesk desk = Check.deskWith("plan a fee 5 for 0 free 3 to 5 at 7 rest 9;plan b fee 6;", 2);
        Check.due("tape", desk.count(2), 0);
        Check.uses(desk, 0, 0, 0, 10);
        Check.dueFault(desk, "plan c fee 8 for 0 rest 1;plan d fee 9;plan e fee;", 49, 1);
        Check.due("tape behind a FAULT", desk.count(2), 0);
        Check.due("PLANS stay", desk.count(0), 2);
        duePlan(desk, 0, 5, 1, 0, 23, 1);
        duePlan(desk, 1, 6, 1, 0, 23, 0);
        Check.due("PARTS stay", desk.cost(0, 1, 0, 2), 5 * 7 + 2 * 9);
        Check.due("fault()", desk.fault(), 1);
        Check.due("fault() again", desk.fault(), 1);
        Check.dueFault(desk, "plan c fee 8 term 0;", 18, 2);
        Check.due("PLANS", Check.plans(desk, "plan c fee 8;"), 1);
        Check.due("fault()", desk.fault(), 0);
        duePlan(desk, 0, 8, 1, 0, 23, 0);
        Check.dueThrown("plan(1, 0)", () -> desk.plan(1, 0));
        // What an earlier text told must not shine through.
        Check.due("PLANS", Check.plans(desk, "plan a fee 1 term 4 from 2 until 3 for 0 free 3 to 5 at 7 rest 9;"), 1);
        Check.due("PLANS", Check.plans(desk, "plan a fee 1;"), 1);
        Check.due("PLANS", Check.plans(desk, "plan a fee 1 for 0 rest 2;"), 1);
        duePlan(desk, 0, 1, 1, 0, 23, 1);
        Check.due("PART", desk.cost(0, 1, 0, 2), 20);
        Check.due("USES stay", desk.use(0, 0, 0), 10);
    }

    private static void dueOut(TariffDesk desk, String want) {
        Check.due("count(3)", desk.count(3), want.length());
        for (int k = 0; k < want.length(); k++) {
            Check.due("octet(" + k + ") of " + want, desk.octet(k), want.charAt(k));
        }
        int[] wrong = {-1, want.length(), 8, 100, Integer.MAX_VALUE, Integer.MIN_VALUE};
        for (int k : wrong) {
            Check.dueThrown("octet(" + k + ")", () -> desk.octet(k));
        }
    }

    private static void out() {
        TariffDesk desk = Check.deskWith("plan zyxwvuts fee 1;plan q fee 1;plan toa fee 1;", 3);
        dueOut(desk, "");
        Check.due("name(0)", desk.name(0), 8);
        dueOut(desk, "zyxwvuts");
        Check.due("name(1)", desk.name(1), 1);
        dueOut(desk, "q");
        int[] wrong = {-1, 3, 10, Integer.MAX_VALUE, Integer.MIN_VALUE};
        for (int p : wrong) {
            Check.due("name(" + p + ")", desk.name(p), -1);
            dueOut(desk, "q");
        }
        Check.due("name(2)", desk.name(2), 3);
        dueOut(desk, "toa");
        Check.due("PLANS", Check.plans(desk, "plan new fee 1;"), 1);
        dueOut(desk, "toa");
    }
}
