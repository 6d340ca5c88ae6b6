import java.util.NoSuchElementException;

/** A desk for price plans; ../shared/DOC.md has its promises and what the words in capitals mean. */
public final class TariffDesk {
    public static final int NONE = -1;

    private static final int HOUSES = 4;
    private static final int ALL_HOUSES = 15;
    private static final int SERVICES = 4;
    private static final int MONTHS = 24;
    private static final int MOST_UNITS = 20000;
    private static final int MOST_SWITCH = 100000;
    private static final int MOST_PLANS = 10;
    private static final int MOST_STEPS = 3;
    private static final int MOST_TEXT = 800;
    private static final int MOST_TAPE = 840;
    private static final int FED_BYTES = 20;

    private final Tape tape;
    private final PlanReader reader;
    private final UseBook useBook;
    private final RowFinder finder;
    private final Parting parting;
    private final int[] spanLeast;
    private final int[] spanGreatest;
    private final int[] row;
    private PlanBook book;
    private int switchCents;
    private long outLetters;
    private int outLength;

    public TariffDesk() {
        tape = new Tape();
        reader = new PlanReader(tape);
        useBook = new UseBook();
        finder = new RowFinder();
        parting = new Parting();
        spanLeast = new int[SERVICES];
        spanGreatest = new int[SERVICES];
        row = new int[MONTHS];
        book = new PlanBook();
        forgetRow();
    }

    public int feed(int a, int b, int c, int d, int e) {
        if (tape.length + FED_BYTES > MOST_TAPE) {
            return NONE;
        }
        tape.append(a);
        tape.append(b);
        tape.append(c);
        tape.append(d);
        tape.append(e);
        return tape.length;
    }

    public boolean end(int n) {
        if (n < 0 || n > tape.length) {
            return false;
        }
        tape.length = n;
        return true;
    }

    public int plans() {
        boolean whole = reader.readText();
        tape.length = 0;
        if (!whole) {
            return -1 - reader.faultPlace;
        }
        book = reader.exchange(book);
        forgetRow();
        parting.forget();
        return book.size;
    }

    public int fault() {
        return reader.faultKind;
    }

    public int plan(int p, int what) throws NoSuchElementException {
        Plan plan = book.at(p);
        if (plan == null) {
            throw new NoSuchElementException();
        }
        switch (what) {
            case 0:
                return plan.fee;
            case 1:
                return plan.term;
            case 2:
                return plan.from;
            case 3:
                return plan.until;
            case 4:
                return plan.services;
            default:
                throw new NoSuchElementException();
        }
    }

    public int name(int p) {
        Plan plan = book.at(p);
        if (plan == null) {
            return NONE;
        }
        outLetters = plan.nameLetters;
        outLength = plan.nameLength;
        return outLength;
    }

    public int octet(int k) throws NoSuchElementException {
        if (k < 0 || k >= outLength) {
            throw new NoSuchElementException();
        }
        return (int) (outLetters >> 8 * (outLength - 1 - k)) & 255;
    }

    public int uses(int house, int service, int month) {
        int taken = useBook.take(tape, house, service, month);
        tape.length = 0;
        return taken;
    }

    public int use(int house, int service, int month) {
        return useBook.at(house, service, month);
    }

    public boolean change(int cents) {
        if (cents < 0 || cents > MOST_SWITCH) {
            return false;
        }
        switchCents = cents;
        return true;
    }

    public long cost(int p, int houses, int month, int what) throws NoSuchElementException {
        long cents = centsOf(p, houses, month, what);
        if (cents == NONE) {
            throw new NoSuchElementException();
        }
        return cents;
    }

    public long bill(int p, int house, int month, long cents) throws NoSuchElementException {
        long due = isWithin(house, 0, HOUSES - 1) ? centsOf(p, 1 << house, month, 0) : NONE;
        if (due == NONE) {
            throw new NoSuchElementException();
        }
        return cents - due;
    }

    public long best(int houses, int from, int to) {
        if (!isWithin(houses, 1, ALL_HOUSES) || from < 0 || from >= to || to > MONTHS) {
            return NONE;
        }
        long least = finder.search(book, useBook, houses, from, to, switchCents);
        if (least != NONE) {
            forgetRow();
            finder.writeRow(row);
        }
        return least;
    }

    public int had(int month) {
        return isWithin(month, 0, MONTHS - 1) ? row[month] : NONE;
    }

    public long bills() {
        for (int houses = 1; houses <= ALL_HOUSES; houses++) {
            parting.tellBest(houses, finder.search(book, useBook, houses, 0, MONTHS, switchCents));
        }
        return parting.part();
    }

    public int group(int house) {
        return isWithin(house, 0, HOUSES - 1) ? parting.groups[house] : NONE;
    }

    public boolean span(int service, int least, int greatest) {
        if (!isWithin(service, 0, SERVICES - 1) || least < 0 || least > greatest || greatest > MOST_UNITS) {
            return false;
        }
        spanLeast[service] = least;
        spanGreatest[service] = greatest;
        return true;
    }

    public long above(int p, int q, boolean greatest) throws NoSuchElementException {
        Plan one = book.at(p);
        Plan other = book.at(q);
        if (one == null || other == null) {
            throw new NoSuchElementException();
        }
        long total = (long) one.fee - other.fee;
        for (int service = 0; service < SERVICES; service++) {
            if (spanGreatest[service] > 0) {
                Part onePart = one.partFor(service);
                Part otherPart = other.partFor(service);
                if (onePart == null || otherPart == null) {
                    throw new NoSuchElementException();
                }
                total += partAbove(onePart, otherPart, service, greatest);
            }
        }
        return total;
    }

    public int count(int what) {
        switch (what) {
            case 0:
                return book.size;
            case 1:
                return switchCents;
            case 2:
                return tape.length;
            case 3:
                return outLength;
            default:
                return NONE;
        }
    }

    private static boolean isWithin(int number, int least, int greatest) {
        return number >= least && number <= greatest;
    }

    /** NONE stands for a COST that there is not; it is no COST, as these are never below 0. */
    private static long plus(long one, long other) {
        return one == NONE || other == NONE ? NONE : one + other;
    }

    private static boolean isCheaper(long cents, long least) {
        return cents != NONE && (least == NONE || cents < least);
    }

    private void forgetRow() {
        for (int month = 0; month < MONTHS; month++) {
            row[month] = NONE;
        }
    }

    private long centsOf(int p, int houses, int month, int what) {
        Plan plan = book.at(p);
        if (plan == null || !isWithin(houses, 1, ALL_HOUSES) || !isWithin(month, 0, MONTHS - 1)
                || !isWithin(what, 0, SERVICES + 1)) {
            return NONE;
        }
        int[] units = useBook.together(houses, month);
        long all = plan.monthCents(units);
        if (all == NONE || what == 0) {
            return all;
        }
        return what == 1 ? plan.fee : plan.partCents(units, what - 2);
    }

    /** The difference is straight between corners, so that it is least and greatest at one of them or at the ends. */
    private long partAbove(Part one, Part other, int service, boolean greatest) {
        int least = spanLeast[service];
        int most = spanGreatest[service];
        long found = further(differenceAt(one, other, least), differenceAt(one, other, most), greatest);
        for (int k = 0; k <= MOST_STEPS; k++) {
            int oneCorner = one.corner(k);
            if (isWithin(oneCorner, least, most)) {
                found = further(found, differenceAt(one, other, oneCorner), greatest);
            }
            int otherCorner = other.corner(k);
            if (isWithin(otherCorner, least, most)) {
                found = further(found, differenceAt(one, other, otherCorner), greatest);
            }
        }
        return found;
    }

    private static long differenceAt(Part one, Part other, int units) {
        return one.centsFor(units) - other.centsFor(units);
    }

    private static long further(long one, long other, boolean greatest) {
        return greatest ? Math.max(one, other) : Math.min(one, other);
    }

    /** The bytes that were fed and not yet read. */
    private static final class Tape {
        private final byte[] bytes = new byte[MOST_TAPE];
        private int length;

        private void append(int number) {
            for (int shift = 24; shift >= 0 && length < MOST_TAPE; shift -= 8) {
                bytes[length] = (byte) (number >> shift);
                length++;
            }
        }

        private int byteAt(int place) {
            return place < 0 || place >= length || place >= MOST_TAPE ? NONE : bytes[place] & 255;
        }
    }

    /** What a PLAN takes for one SERVICE. */
    private static final class Part {
        private final int[] stepEnds = new int[MOST_STEPS];
        private final int[] stepCents = new int[MOST_STEPS];
        private int free;
        private int steps;
        private int restCents;

        private void clear() {
            free = 0;
            steps = 0;
            restCents = 0;
        }

        private int lastEnd() {
            return steps < 1 || steps > MOST_STEPS ? 0 : stepEnds[steps - 1];
        }

        private void addStep(int end) {
            if (steps >= 0 && steps < MOST_STEPS) {
                stepEnds[steps] = end;
                stepCents[steps] = 0;
                steps++;
            }
        }

        private void priceLastStep(int cents) {
            if (steps >= 1 && steps <= MOST_STEPS) {
                stepCents[steps - 1] = cents;
            }
        }

        private long centsFor(int units) {
            int paid = Math.max(0, units - free);
            int counted = 0;
            long total = 0;
            for (int k = 0; k < steps && k < MOST_STEPS; k++) {
                int end = Math.min(paid, stepEnds[k]);
                total += (long) (end - counted) * stepCents[k];
                counted = end;
            }
            return total + (long) (paid - counted) * restCents;
        }

        /** A number of units at which the cents for each may change; NONE if there are not so many. */
        private int corner(int k) {
            if (k == 0) {
                return free;
            }
            return k < 0 || k > steps || k > MOST_STEPS ? NONE : free + stepEnds[k - 1];
        }
    }

    private static final class Plan {
        private final Part[] parts = new Part[SERVICES];
        /** A NAME has at most eight letters: they stand in one long, the first one highest. */
        private long nameLetters;
        private int nameLength;
        private int fee;
        private int term;
        private int from;
        private int until;
        private int services;

        private Plan() {
            for (int service = 0; service < SERVICES; service++) {
                parts[service] = new Part();
            }
            clear();
        }

        private void clear() {
            nameLetters = 0;
            nameLength = 0;
            fee = 0;
            term = 1;
            from = 0;
            until = MONTHS - 1;
            services = 0;
        }

        private Part addPart(int service) {
            if (!isWithin(service, 0, SERVICES - 1)) {
                return null;
            }
            Part part = parts[service];
            if (part != null) {
                part.clear();
                services |= 1 << service;
            }
            return part;
        }

        private Part partFor(int service) {
            if (!isWithin(service, 0, SERVICES - 1) || (services >> service & 1) == 0) {
                return null;
            }
            return parts[service];
        }

        private boolean mayBeginIn(int month) {
            return isWithin(month, from, until);
        }

        private long partCents(int[] units, int service) {
            Part part = partFor(service);
            return part == null || service >= units.length ? 0 : part.centsFor(units[service]);
        }

        private long monthCents(int[] units) {
            long total = fee;
            for (int service = 0; service < SERVICES && service < units.length; service++) {
                if (units[service] > 0 && partFor(service) == null) {
                    return NONE;
                }
                total += partCents(units, service);
            }
            return total;
        }
    }

    private static final class PlanBook {
        private final Plan[] entries = new Plan[MOST_PLANS];
        private int size;

        private PlanBook() {
            for (int p = 0; p < MOST_PLANS; p++) {
                entries[p] = new Plan();
            }
        }

        private Plan at(int p) {
            return p < 0 || p >= size || p >= MOST_PLANS ? null : entries[p];
        }

        private boolean hasName(long letters) {
            for (int p = 0; p < size; p++) {
                Plan plan = at(p);
                if (plan != null && plan.nameLetters == letters) {
                    return true;
                }
            }
            return false;
        }

        /** The PLAN behind the last one, not counted yet: its own NAME is not one that is there. */
        private Plan nextPlan() {
            if (size < 0 || size >= MOST_PLANS) {
                return null;
            }
            Plan plan = entries[size];
            if (plan != null) {
                plan.clear();
            }
            return plan;
        }
    }

    /** Reads a text of PLANS, TOKEN by TOKEN, up to its first FAULT. */
    private static final class PlanReader {
        private static final int CANT_COME = 1;
        private static final int NOT_AS_TOLD = 2;
        private static final int THERE_ALREADY = 3;
        private static final int TOO_MANY = 4;

        private static final int NAME = 1;
        private static final int NUMBER = 2;

        private static final int PLAN = 0;
        private static final int FEE = 1;
        private static final int TERM = 2;
        private static final int FROM = 3;
        private static final int UNTIL = 4;
        private static final int FOR = 5;
        private static final int FREE = 6;
        private static final int TO = 7;
        private static final int AT = 8;
        private static final int REST = 9;
        private static final int SEMICOLON = 10;
        private static final int TEXT_END = 11;

        /** The letters of the words PLAN to REST, held as those of a NAME are. */
        private static final long[] WORD_LETTERS = {
            'p' << 24 | 'l' << 16 | 'a' << 8 | 'n',
            'f' << 16 | 'e' << 8 | 'e',
            't' << 24 | 'e' << 16 | 'r' << 8 | 'm',
            'f' << 24 | 'r' << 16 | 'o' << 8 | 'm',
            (long) 'u' << 32 | 'n' << 24 | 't' << 16 | 'i' << 8 | 'l',
            'f' << 16 | 'o' << 8 | 'r',
            'f' << 24 | 'r' << 16 | 'e' << 8 | 'e',
            't' << 8 | 'o',
            'a' << 8 | 't',
            'r' << 24 | 'e' << 16 | 's' << 8 | 't',
        };

        private static final int MOST_LETTERS = 8;
        private static final int MOST_DIGITS = 6;
        private static final int MOST_FEE = 999999;
        private static final int MOST_UNIT_CENTS = 9999;

        private final Tape tape;
        /** Not the book that the desk works with, so that a FAULT leaves the PLANS as they are. */
        private PlanBook book;
        private Plan plan;
        private Part part;
        private int faultKind;
        private int faultPlace;
        /** NAME (a word is one, too), NUMBER, or NONE for all others. */
        private int token;
        private int tokenPlace;
        private int tokenLength;
        private long letters;
        private int number;
        /** The word that the TOKEN at hand is (SEMICOLON and TEXT_END too); NONE for another one. */
        private int word;

        private PlanReader(Tape text) {
            tape = text;
            book = new PlanBook();
        }

        /** Gives the book that was read and takes another one to read into. */
        private PlanBook exchange(PlanBook next) {
            PlanBook read = book;
            book = next;
            return read;
        }

        /**
         * Behind plan comes a NAME, behind every other word a NUMBER, and what can come then hangs on that word
         * alone: so the text is read as a row of such pairs.
         */
        private boolean readText() {
            book.size = 0;
            faultKind = 0;
            tokenPlace = 0;
            tokenLength = 0;
            int ahead = NONE;
            for (int turn = 0; turn <= MOST_TEXT; turn++) {
                scan();
                if (!mayFollow(ahead)) {
                    return refuse(CANT_COME);
                }
                if (word == TEXT_END) {
                    return true;
                }
                ahead = word;
                if (!readPair()) {
                    return false;
                }
            }
            return refuse(CANT_COME);
        }

        private boolean mayFollow(int ahead) {
            switch (ahead) {
                case PLAN:
                    return word == FEE;
                case FEE:
                    return word == TERM || word == FROM || word == FOR || word == SEMICOLON;
                case TERM:
                    return word == FROM || word == FOR || word == SEMICOLON;
                case FROM:
                    return word == UNTIL;
                case UNTIL:
                case REST:
                    return word == FOR || word == SEMICOLON;
                case FOR:
                    return word == FREE || word == TO || word == REST;
                case FREE:
                case AT:
                    return word == TO || word == REST;
                case TO:
                    return word == AT;
                case SEMICOLON:
                    return word == PLAN || word == TEXT_END;
                default:
                    return word == PLAN;
            }
        }

        private boolean readPair() {
            if (word == SEMICOLON) {
                // Counted no sooner, so that a NAME is not held against itself.
                book.size++;
                return true;
            }
            if (word == PLAN) {
                plan = book.nextPlan();
                return plan == null ? refuse(TOO_MANY) : readName();
            }
            if (word == TO && part != null && part.steps >= MOST_STEPS) {
                return refuse(TOO_MANY);
            }
            return readNumber(word);
        }

        private boolean readName() {
            scan();
            if (token != NAME || word != NONE) {
                return refuse(CANT_COME);
            }
            if (book.hasName(letters)) {
                return refuse(THERE_ALREADY);
            }
            if (plan != null) {
                plan.nameLetters = letters;
                plan.nameLength = tokenLength;
            }
            return true;
        }

        private boolean readNumber(int ahead) {
            scan();
            if (token != NUMBER) {
                return refuse(CANT_COME);
            }
            if (!isWithin(number, leastBehind(ahead), greatestBehind(ahead))) {
                return refuse(NOT_AS_TOLD);
            }
            if (ahead == FOR && plan != null && plan.partFor(number) != null) {
                return refuse(THERE_ALREADY);
            }
            putInPlan(ahead);
            putInPart(ahead);
            return true;
        }

        private int leastBehind(int ahead) {
            switch (ahead) {
                case TERM:
                    return 1;
                case UNTIL:
                    return plan == null ? 0 : plan.from;
                case TO:
                    return part == null ? 1 : part.lastEnd() + 1;
                default:
                    return 0;
            }
        }

        private static int greatestBehind(int ahead) {
            switch (ahead) {
                case FEE:
                    return MOST_FEE;
                case TERM:
                    return MONTHS;
                case FROM:
                case UNTIL:
                    return MONTHS - 1;
                case FOR:
                    return SERVICES - 1;
                case FREE:
                case TO:
                    return MOST_UNITS;
                default:
                    return MOST_UNIT_CENTS;
            }
        }

        private void putInPlan(int ahead) {
            if (plan == null) {
                return;
            }
            switch (ahead) {
                case FEE:
                    plan.fee = number;
                    break;
                case TERM:
                    plan.term = number;
                    break;
                case FROM:
                    plan.from = number;
                    break;
                case UNTIL:
                    plan.until = number;
                    break;
                case FOR:
                    part = plan.addPart(number);
                    break;
                default:
                    break;
            }
        }

        private void putInPart(int ahead) {
            if (part == null) {
                return;
            }
            switch (ahead) {
                case FREE:
                    part.free = number;
                    break;
                case TO:
                    part.addStep(number);
                    break;
                case AT:
                    part.priceLastStep(number);
                    break;
                case REST:
                    part.restCents = number;
                    break;
                default:
                    break;
            }
        }

        private boolean refuse(int kind) {
            faultKind = kind;
            faultPlace = tokenPlace;
            return false;
        }

        /** Goes to the next TOKEN; a text that is too long has none at 800, whatever stands there. */
        private void scan() {
            int place = tokenPlace + tokenLength;
            while (place < tape.length && isBlank(tape.byteAt(place))) {
                place++;
            }
            tokenPlace = Math.min(place, MOST_TEXT);
            tokenLength = 0;
            token = NONE;
            word = NONE;
            if (place >= MOST_TEXT && tape.length > MOST_TEXT) {
                return;
            }
            if (place >= tape.length) {
                word = TEXT_END;
            } else if (tape.byteAt(place) == ';') {
                word = SEMICOLON;
                tokenLength = 1;
            } else {
                scanRun();
            }
        }

        /** A run that is too long is read whole, too: its letters and number are wrong then and not looked at. */
        private void scanRun() {
            int digits = 0;
            letters = 0;
            number = 0;
            for (int place = tokenPlace; place < tape.length; place++) {
                int sign = tape.byteAt(place);
                boolean digit = isWithin(sign, '0', '9');
                if (!digit && !isWithin(sign, 'a', 'z')) {
                    break;
                }
                if (digit) {
                    digits++;
                    number = number * 10 + (sign - '0');
                }
                letters = letters << 8 | sign;
                tokenLength++;
            }
            if (digits == 0 && isWithin(tokenLength, 1, MOST_LETTERS)) {
                token = NAME;
                word = wordOf(letters);
            } else if (digits == tokenLength && isWithin(tokenLength, 1, MOST_DIGITS)) {
                token = NUMBER;
            }
        }

        private static int wordOf(long letters) {
            for (int k = 0; k < WORD_LETTERS.length; k++) {
                if (WORD_LETTERS[k] == letters) {
                    return k;
                }
            }
            return NONE;
        }

        private static boolean isBlank(int sign) {
            return sign == 32 || sign == 10;
        }
    }

    /** The USES of all HOUSES. */
    private static final class UseBook {
        private final int[] units = new int[HOUSES * SERVICES * MONTHS];
        private final int[] sums = new int[SERVICES];

        private static int slot(int house, int service, int month) {
            if (!isWithin(house, 0, HOUSES - 1) || !isWithin(service, 0, SERVICES - 1)
                    || !isWithin(month, 0, MONTHS - 1)) {
                return NONE;
            }
            return (house * SERVICES + service) * MONTHS + month;
        }

        private int at(int house, int service, int month) {
            int slot = slot(house, service, month);
            return slot == NONE ? NONE : units[slot];
        }

        /** Looks at all numbers ahead of putting one: of a tape that is refused none may come. */
        private int take(Tape tape, int house, int service, int month) {
            int first = slot(house, service, month);
            int months = tape.length / 2;
            if (first == NONE || tape.length % 2 != 0 || months > MONTHS - month) {
                return NONE;
            }
            for (int k = 0; k < months; k++) {
                if (numberAt(tape, k) > MOST_UNITS) {
                    return NONE;
                }
            }
            for (int k = 0; k < months && first + k < units.length; k++) {
                units[first + k] = numberAt(tape, k);
            }
            return months;
        }

        private static int numberAt(Tape tape, int k) {
            return tape.byteAt(2 * k) << 8 | tape.byteAt(2 * k + 1);
        }

        /** The row that it answers is the same one each time: it is read ahead of the next call. */
        private int[] together(int houses, int month) {
            for (int service = 0; service < SERVICES; service++) {
                int sum = 0;
                for (int house = 0; house < HOUSES; house++) {
                    if ((houses >> house & 1) != 0) {
                        sum += at(house, service, month);
                    }
                }
                sums[service] = sum;
            }
            return sums;
        }
    }

    /** Finds a BEST from the last MONTH back: what can follow hangs on the PLAN ahead and on its term alone. */
    private static final class RowFinder {
        private final long[] monthCents = new long[MONTHS * MOST_PLANS];
        /** From a MONTH on, where a PLAN begins in it. */
        private final long[] begunCents = new long[MONTHS * MOST_PLANS];
        /** From a MONTH on, where a PLAN was ahead of it and its term is over. */
        private final long[] freedCents = new long[MONTHS * MOST_PLANS];
        private final int[] freedChoice = new int[MONTHS * MOST_PLANS];
        private PlanBook book;
        private int from;
        private int to;
        private int firstPlan;

        private long search(PlanBook plans, UseBook useBook, int houses, int first, int end, int switchCents) {
            book = plans;
            from = Math.max(first, 0);
            to = Math.min(end, MONTHS);
            for (int month = to - 1; month >= from; month--) {
                fillMonthCents(useBook.together(houses, month), month);
                for (int p = 0; p < book.size; p++) {
                    fillBegun(p, month);
                }
                for (int p = 0; p < book.size; p++) {
                    fillFreed(p, month, switchCents);
                }
            }
            return chooseFirst();
        }

        private void writeRow(int[] row) {
            int p = firstPlan;
            int bound = from + termOf(p);
            for (int month = from; month < to && month < row.length; month++) {
                if (month >= bound && choiceAt(month, p) != p) {
                    p = choiceAt(month, p);
                    bound = month + termOf(p);
                }
                row[month] = p;
            }
        }

        private static int slot(int month, int p) {
            return isWithin(month, 0, MONTHS - 1) && isWithin(p, 0, MOST_PLANS - 1) ? month * MOST_PLANS + p : 0;
        }

        private int termOf(int p) {
            Plan plan = book == null ? null : book.at(p);
            return plan == null ? 1 : plan.term;
        }

        private int choiceAt(int month, int p) {
            return freedChoice[slot(month, p)];
        }

        private void fillMonthCents(int[] units, int month) {
            for (int p = 0; p < book.size; p++) {
                Plan plan = book.at(p);
                monthCents[slot(month, p)] = plan == null ? NONE : plan.monthCents(units);
            }
        }

        private void fillBegun(int p, int month) {
            Plan plan = book.at(p);
            long total = NONE;
            if (plan != null && plan.mayBeginIn(month)) {
                int end = Math.min(month + plan.term, to);
                total = end < to ? freedCents[slot(end, p)] : 0;
                for (int m = month; m < end; m++) {
                    total = plus(total, monthCents[slot(m, p)]);
                }
            }
            begunCents[slot(month, p)] = total;
        }

        /** The first one of like ones stays: rows that part here are unlike in this MONTH first. */
        private void fillFreed(int p, int month, int switchCents) {
            long least = NONE;
            int choice = NONE;
            for (int q = 0; q < book.size; q++) {
                long cents = q == p ? keptCents(p, month) : plus(begunCents[slot(month, q)], switchCents);
                if (isCheaper(cents, least)) {
                    least = cents;
                    choice = q;
                }
            }
            freedCents[slot(month, p)] = least;
            freedChoice[slot(month, p)] = choice;
        }

        private long keptCents(int p, int month) {
            long later = month + 1 < to ? freedCents[slot(month + 1, p)] : 0;
            return plus(monthCents[slot(month, p)], later);
        }

        private long chooseFirst() {
            long least = NONE;
            for (int p = 0; p < book.size; p++) {
                long cents = begunCents[slot(from, p)];
                if (isCheaper(cents, least)) {
                    least = cents;
                    firstPlan = p;
                }
            }
            return least;
        }
    }

    /** Parts the HOUSES in groups, from the BESTS of all groups that can be. */
    private static final class Parting {
        private final long[] bests = new long[ALL_HOUSES + 1];
        private final long[] leastCents = new long[ALL_HOUSES + 1];
        private final int[] firstGroup = new int[ALL_HOUSES + 1];
        private final int[] groups = new int[HOUSES];

        private Parting() {
            forget();
        }

        private void forget() {
            for (int house = 0; house < HOUSES; house++) {
                groups[house] = NONE;
            }
        }

        private void tellBest(int houses, long cents) {
            if (isWithin(houses, 1, ALL_HOUSES)) {
                bests[houses] = cents;
            }
        }

        /** What is left when a group is taken away is a lesser number: it is filled already. */
        private long part() {
            leastCents[0] = 0;
            for (int houses = 1; houses <= ALL_HOUSES; houses++) {
                fillLeast(houses);
            }
            if (leastCents[ALL_HOUSES] != NONE) {
                writeGroups();
            }
            return leastCents[ALL_HOUSES];
        }

        private void fillLeast(int houses) {
            int leastHouse = houses & -houses;
            long least = NONE;
            for (int taken = 1; taken <= houses && taken <= ALL_HOUSES; taken++) {
                if ((taken & houses) == taken && (taken & leastHouse) != 0) {
                    long cents = plus(bests[taken], leastCents[houses ^ taken]);
                    if (isCheaper(cents, least)) {
                        least = cents;
                        firstGroup[houses] = taken;
                    }
                }
            }
            leastCents[houses] = least;
        }

        private void writeGroups() {
            int left = ALL_HOUSES;
            for (int turn = 0; turn < HOUSES && left > 0 && left <= ALL_HOUSES; turn++) {
                int taken = firstGroup[left];
                for (int house = 0; house < HOUSES; house++) {
                    if ((taken >> house & 1) != 0) {
                        groups[house] = taken;
                    }
                }
                left &= ~taken;
            }
        }
    }
}
