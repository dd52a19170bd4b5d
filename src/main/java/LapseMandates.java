/**
 * Mandates to spend that lie under one another: limits, approvals, lapses, urgent spendings,
 * spendings as texts, and undo. The face looks at the arguments, throws what the document names,
 * and saves the state; the classes inside hold the state and the rules, and throw nothing.
 */
public final class LapseMandates {
    /** There is nothing to return. */
    public static final int NONE = -1;

    private static final int MOST_MANDATES = 12;
    private static final int MOST_REQUESTS = 6;
    private static final int MOST_SAVED = 6;
    private static final int MOST_CODES = 60;
    private static final int PERSONS = 8;
    private static final int MOST_AMOUNT = 9999;
    private static final int MOST_NEEDED = 3;
    private static final int MOST_DAYS_AT_ONCE = 60;
    private static final int LAST_DAY = 5000;
    private static final int DAYS_OF_PERIOD = 10;

    private static final int GRACE = 0;
    private static final int MOST_GRACE = 30;
    private static final int FIRST_GRACE = 3;
    private static final int LONGEST_CHAIN = 1;
    private static final int FIRST_LONGEST_CHAIN = 4;

    private static final int SAVED_STATES = 11;
    private static final int MANDATE_PROPERTIES = 12;
    private static final int REQUEST_PROPERTIES = 7;
    private static final int PERSON_NUMBERS = 4;
    private static final int COUNTS = 12;

    private static final int DIGEST_AMOUNT = 100;
    private static final long FIRST_HASH = 2543L;
    private static final int MOST_HALVINGS = 64;
    private static final int EXPONENT_BIAS = 1023;
    private static final int FRACTION_BITS = 52;
    private static final long FRACTION_UNITS = 1L << FRACTION_BITS;

    private final Book book = new Book();
    private final History history = new History();
    private final Text text = new Text();

    public LapseMandates() {
    }

    // ---- mandates

    public int give(int upper, int holder, int each, int period, int needed)
            throws IndexOutOfBoundsException, IllegalArgumentException, IllegalStateException {
        if (upper != NONE) {
            checkMandate(upper);
        }
        checkRange(holder, 0, PERSONS - 1);
        checkRange(each, 1, MOST_AMOUNT);
        checkRange(period, 1, MOST_AMOUNT);
        checkRange(needed, 0, MOST_NEEDED);
        if (!book.hasPlaceUnder(upper, each, period)) {
            throw new IllegalStateException("the mandate cannot be given");
        }
        history.keep(book);
        return book.mandates.begin(upper, holder, each, period, needed);
    }

    public int withdraw(int mandate) throws IndexOutOfBoundsException, IllegalStateException {
        checkMandate(mandate);
        checkStands(mandate);
        history.keep(book);
        return book.lapse(mandate);
    }

    public int limit(int mandate, int each, int period)
            throws IndexOutOfBoundsException, IllegalArgumentException, IllegalStateException {
        checkMandate(mandate);
        checkRange(each, 1, MOST_AMOUNT);
        checkRange(period, 1, MOST_AMOUNT);
        checkStands(mandate);
        if (!book.mandates.canHaveLimits(mandate, each, period)) {
            throw new IllegalStateException("the limits do not fit the mandates round it");
        }
        history.keep(book);
        return book.mandates.changeLimits(mandate, each, period);
    }

    public int need(int mandate, int needed)
            throws IndexOutOfBoundsException, IllegalArgumentException, IllegalStateException {
        checkMandate(mandate);
        checkRange(needed, 0, MOST_NEEDED);
        checkStands(mandate);
        history.keep(book);
        return book.mandates.exchange(mandate, Mandates.NEEDED, needed);
    }

    // ---- spendings

    public int spend(int mandate, int amount)
            throws IndexOutOfBoundsException, IllegalArgumentException, IllegalStateException {
        return askFor(mandate, amount, false);
    }

    public int urge(int mandate, int amount)
            throws IndexOutOfBoundsException, IllegalArgumentException, IllegalStateException {
        return askFor(mandate, amount, true);
    }

    public int approve(int request, int person) throws IndexOutOfBoundsException, IllegalStateException {
        checkRequest(request);
        checkPerson(person);
        if (!book.couldApprove(request, person)) {
            throw new IllegalStateException("the person cannot approve it");
        }
        history.keep(book);
        return book.addApproval(request, person);
    }

    public int takeBack(int request) throws IndexOutOfBoundsException, IllegalStateException {
        checkRequest(request);
        if (book.isUrgent(request)) {
            throw new IllegalStateException("an urgent spending cannot be taken back");
        }
        history.keep(book);
        return book.removeRequest(request);
    }

    public int pass(int days) throws IllegalArgumentException, IllegalStateException {
        checkRange(days, 1, MOST_DAYS_AT_ONCE);
        if (book.day + days > LAST_DAY) {
            throw new IllegalStateException("the days end before that");
        }
        history.keep(book);
        int lapsed = 0;
        for (int passed = 0; passed < days; passed++) {
            lapsed += book.nextDay();
        }
        return lapsed;
    }

    public int set(int setting, int value) throws IndexOutOfBoundsException, IllegalArgumentException {
        checkSetting(setting);
        if (setting == GRACE) {
            checkRange(value, 0, MOST_GRACE);
        } else {
            checkRange(value, 1, MOST_MANDATES);
        }
        history.keep(book);
        return book.changeSetting(setting, value);
    }

    // ---- texts

    public int append(int code) throws IllegalArgumentException, IllegalStateException {
        checkRange(code, Text.FIRST_CODE, Text.LAST_CODE);
        if (text.isFull()) {
            throw new IllegalStateException("the buffer is full");
        }
        return text.add(code);
    }

    public int clearBuffer() {
        return text.empty();
    }

    public int firstError() {
        return text.errorIndex();
    }

    public int run() throws IllegalArgumentException {
        if (!text.isComplete()) {
            throw new IllegalArgumentException("the buffer is not a complete row of spendings");
        }
        history.keep(book);
        int carriedOut = carryOutText();
        text.empty();
        return carriedOut;
    }

    public int undo() throws IllegalStateException {
        if (history.kept == 0) {
            throw new IllegalStateException("no state is saved");
        }
        return history.restore(book);
    }

    // ---- what there is

    public int mandate(int mandate, int what) throws IndexOutOfBoundsException, IllegalArgumentException {
        checkMandate(mandate);
        checkRange(what, 0, MANDATE_PROPERTIES - 1);
        return book.mandateProperty(mandate, what);
    }

    public int request(int request, int what) throws IndexOutOfBoundsException, IllegalArgumentException {
        checkRequest(request);
        checkRange(what, 0, REQUEST_PROPERTIES - 1);
        return book.requestProperty(request, what);
    }

    public int person(int person, int what) throws IndexOutOfBoundsException, IllegalArgumentException {
        checkPerson(person);
        checkRange(what, 0, PERSON_NUMBERS - 1);
        return book.personNumber(person, what);
    }

    public int count(int what) throws IllegalArgumentException {
        checkRange(what, 0, COUNTS - 1);
        return what == SAVED_STATES ? history.kept : book.number(what);
    }

    public int setting(int setting) throws IndexOutOfBoundsException {
        checkSetting(setting);
        return book.settingValue(setting);
    }

    // ---- what would be; nothing is changed

    public int whyNot(int mandate, int amount) throws IndexOutOfBoundsException, IllegalArgumentException {
        checkMandate(mandate);
        checkRange(amount, 1, MOST_AMOUNT);
        return book.mandates.refusal(mandate, amount);
    }

    public int room(int mandate, boolean isUrgent) throws IndexOutOfBoundsException {
        checkMandate(mandate);
        return book.mandates.greatestAmount(mandate, isUrgent);
    }

    public int under(int mandate) throws IndexOutOfBoundsException {
        checkMandate(mandate);
        return book.mandates.wouldLapse(mandate);
    }

    public int narrowest(int mandate) throws IndexOutOfBoundsException {
        checkMandate(mandate);
        return book.mandates.narrowestOfChain(mandate);
    }

    public int lapsesIn(int mandate) throws IndexOutOfBoundsException {
        checkMandate(mandate);
        return book.daysUntilLapse(mandate);
    }

    public double usedShare(int mandate) throws IndexOutOfBoundsException {
        checkMandate(mandate);
        return book.mandates.shareUsed(mandate);
    }

    public long digest() {
        long hash = FIRST_HASH;
        for (int what = 0; what < COUNTS; what++) {
            hash = mix(hash, count(what));
        }
        hash = mix(hash, book.grace);
        hash = mix(hash, book.longestChain);
        for (int mandate = 0; mandate < book.mandates.total(); mandate++) {
            hash = mixMandate(hash, mandate);
        }
        for (int request = 0; request < book.requests.rows; request++) {
            for (int what = 0; what < REQUEST_PROPERTIES; what++) {
                hash = mix(hash, book.requestProperty(request, what));
            }
        }
        for (int person = 0; person < PERSONS; person++) {
            for (int what = 0; what < PERSON_NUMBERS; what++) {
                hash = mix(hash, book.personNumber(person, what));
            }
        }
        hash = mix(hash, text.length);
        for (int index = 0; index < text.length; index++) {
            hash = mix(hash, text.codeAt(index));
        }
        return hash;
    }

    // ---- what the face shares

    private void checkMandate(int mandate) {
        if (mandate < 0 || mandate >= book.mandates.total()) {
            throw new IndexOutOfBoundsException("no such mandate");
        }
    }

    private void checkRequest(int request) {
        if (request < 0 || request >= book.requests.rows) {
            throw new IndexOutOfBoundsException("no such request");
        }
    }

    private static void checkPerson(int person) {
        if (person < 0 || person >= PERSONS) {
            throw new IndexOutOfBoundsException("no such person");
        }
    }

    private static void checkSetting(int setting) {
        if (setting != GRACE && setting != LONGEST_CHAIN) {
            throw new IndexOutOfBoundsException("no such setting");
        }
    }

    private static void checkRange(int value, int least, int most) {
        if (value < least || value > most) {
            throw new IllegalArgumentException("out of range");
        }
    }

    private void checkStands(int mandate) {
        if (!book.mandates.stands(mandate)) {
            throw new IllegalStateException("the mandate does not stand");
        }
    }

    private int askFor(int mandate, int amount, boolean isUrgent) {
        checkMandate(mandate);
        checkRange(amount, 1, MOST_AMOUNT);
        if (!book.canAskFor(mandate, amount, isUrgent)) {
            throw new IllegalStateException("the spending cannot be asked for");
        }
        history.keep(book);
        return book.carryOut(mandate, amount, isUrgent);
    }

    /** Carries out the text, which must be complete, up to the first spending that cannot be. */
    private int carryOutText() {
        int carriedOut = 0;
        int start = 0;
        for (int turn = 0; turn < MOST_CODES && start < text.length; turn++) {
            boolean isUrgent = text.codeAt(start) == 'u';
            int colon = text.endOfNumber(start + 1);
            int end = text.endOfNumber(colon + 1);
            int mandate = text.numberIn(start + 1, colon);
            int amount = text.numberIn(colon + 1, end);
            if (mandate >= book.mandates.total() || !book.canAskFor(mandate, amount, isUrgent)) {
                break;
            }
            book.carryOut(mandate, amount, isUrgent);
            carriedOut++;
            start = end + 1;
        }
        return carriedOut;
    }

    private static long mix(long hash, long value) {
        return 31L * hash + value;
    }

    private long mixMandate(long hash, int mandate) {
        long mixed = hash;
        for (int what = 0; what < MANDATE_PROPERTIES; what++) {
            mixed = mix(mixed, book.mandateProperty(mandate, what));
        }
        mixed = mix(mixed, book.mandates.refusal(mandate, DIGEST_AMOUNT));
        mixed = mix(mixed, book.mandates.greatestAmount(mandate, false));
        mixed = mix(mixed, book.mandates.greatestAmount(mandate, true));
        mixed = mix(mixed, book.mandates.wouldLapse(mandate));
        mixed = mix(mixed, book.mandates.narrowestOfChain(mandate));
        mixed = mix(mixed, book.daysUntilLapse(mandate));
        return mix(mixed, bitsOf(book.mandates.shareUsed(mandate)));
    }

    /**
     * What Double.doubleToLongBits answers, for 0 and for what lies between 2 to the power of -64
     * and of 64: LANGUAGE.md leaves that function out. Halving and doubling are exact here.
     */
    private static long bitsOf(double share) {
        if (share <= 0.0) {
            return 0L;
        }
        double scaled = share;
        int exponent = 0;
        for (int step = 0; step < MOST_HALVINGS && scaled >= 2.0; step++) {
            scaled = scaled / 2.0;
            exponent++;
        }
        for (int step = 0; step < MOST_HALVINGS && scaled < 1.0; step++) {
            scaled = scaled * 2.0;
            exponent--;
        }
        long fraction = (long) ((scaled - 1.0) * (double) FRACTION_UNITS);
        return ((long) (exponent + EXPONENT_BIAS) << FRACTION_BITS) + fraction;
    }

    /** Rows of numbers. Each cell is looked for before it is used; what lies outside is 0. */
    private static final class Table {
        private final int[] cells;
        private final int mostRows;
        private final int width;
        private int rows;

        Table(int mostRows, int width) {
            this.mostRows = Math.max(0, mostRows);
            this.width = Math.max(0, width);
            cells = new int[Math.max(0, this.mostRows * this.width)];
        }

        boolean isFull() {
            return rows >= mostRows;
        }

        int get(int row, int column) {
            if (row < 0 || row >= rows || column < 0 || column >= width) {
                return 0;
            }
            int cell = row * width + column;
            return cell >= 0 && cell < cells.length ? cells[cell] : 0;
        }

        void put(int row, int column, int value) {
            if (row < 0 || row >= rows || column < 0 || column >= width) {
                return;
            }
            int cell = row * width + column;
            if (cell >= 0 && cell < cells.length) {
                cells[cell] = value;
            }
        }

        /** Puts an empty row behind the others. */
        int addRow() {
            if (isFull()) {
                return NONE;
            }
            int row = rows;
            rows++;
            for (int column = 0; column < width; column++) {
                put(row, column, 0);
            }
            return row;
        }

        /** The rows behind it move up by one. */
        void removeRow(int row) {
            if (row < 0 || row >= rows) {
                return;
            }
            for (int next = row + 1; next < rows; next++) {
                for (int column = 0; column < width; column++) {
                    put(next - 1, column, get(next, column));
                }
            }
            rows--;
        }

        void copyFrom(Table other) {
            if (other == null) {
                return;
            }
            rows = other.rows;
            for (int cell = 0; cell < cells.length && cell < other.cells.length; cell++) {
                cells[cell] = other.cells[cell];
            }
        }
    }

    /** The mandates, with their limits and sums; an upper one has a smaller number than those under it. */
    private static final class Mandates {
        private static final int UPPER = 0;
        private static final int HOLDER = 1;
        private static final int EACH = 2;
        private static final int PERIOD = 3;
        private static final int NEEDED = 4;
        private static final int LAPSED_ON = 5;
        private static final int SUM = 6;
        private static final int SPENT = 7;
        private static final int WIDTH = 8;

        private static final int DOES_NOT_STAND = 1;
        private static final int ABOVE_EACH = 2;
        private static final int ABOVE_PERIOD = 3;

        private final Table table = new Table(MOST_MANDATES, WIDTH);

        int total() {
            return table.rows;
        }

        int get(int mandate, int column) {
            return table.get(mandate, column);
        }

        int exchange(int mandate, int column, int value) {
            int previous = table.get(mandate, column);
            table.put(mandate, column, value);
            return previous;
        }

        int begin(int upper, int holder, int each, int period, int needed) {
            int mandate = table.addRow();
            table.put(mandate, UPPER, upper);
            table.put(mandate, HOLDER, holder);
            table.put(mandate, EACH, each);
            table.put(mandate, PERIOD, period);
            table.put(mandate, NEEDED, needed);
            table.put(mandate, LAPSED_ON, NONE);
            return mandate;
        }

        boolean stands(int mandate) {
            return mandate >= 0 && mandate < total() && table.get(mandate, LAPSED_ON) == NONE;
        }

        /** Those of its chain, with itself, as a mask. */
        int chainOf(int mandate) {
            int chain = 0;
            int link = mandate;
            for (int step = 0; step < MOST_MANDATES && link >= 0; step++) {
                chain |= 1 << link;
                link = table.get(link, UPPER);
            }
            return chain;
        }

        int chainLength(int mandate) {
            return mandate < 0 ? 0 : Integer.bitCount(chainOf(mandate));
        }

        /** The persons who hold a mandate above it, but not its own holder, as a mask. */
        int approversOf(int mandate) {
            int persons = 0;
            int link = table.get(mandate, UPPER);
            for (int step = 0; step < MOST_MANDATES && link >= 0; step++) {
                persons |= 1 << table.get(link, HOLDER);
                link = table.get(link, UPPER);
            }
            return persons & ~(1 << table.get(mandate, HOLDER));
        }

        /** Itself and those under it that stand, as a mask; 0 if it does not stand. */
        int wouldLapse(int mandate) {
            if (!stands(mandate)) {
                return 0;
            }
            int mask = 1 << mandate;
            for (int other = mandate + 1; other < total(); other++) {
                if (stands(other) && isIn(mask, table.get(other, UPPER))) {
                    mask |= 1 << other;
                }
            }
            return mask;
        }

        int standingUnder(int mandate) {
            return Math.max(0, Integer.bitCount(wouldLapse(mandate)) - 1);
        }

        void lapseAll(int mask, int day) {
            for (int mandate = 0; mandate < total(); mandate++) {
                if (isIn(mask, mandate)) {
                    table.put(mandate, LAPSED_ON, day);
                }
            }
        }

        boolean fitsUnder(int upper, int each, int period) {
            return upper == NONE || (each <= table.get(upper, EACH) && period <= table.get(upper, PERIOD));
        }

        boolean canHaveLimits(int mandate, int each, int period) {
            if (!fitsUnder(table.get(mandate, UPPER), each, period)) {
                return false;
            }
            for (int other = mandate + 1; other < total(); other++) {
                boolean isBelow = table.get(other, UPPER) == mandate && stands(other);
                if (isBelow && (table.get(other, EACH) > each || table.get(other, PERIOD) > period)) {
                    return false;
                }
            }
            return true;
        }

        /** Answers the previous limit for a period. */
        int changeLimits(int mandate, int each, int period) {
            table.put(mandate, EACH, each);
            return exchange(mandate, PERIOD, period);
        }

        int refusal(int mandate, int amount) {
            if (!stands(mandate)) {
                return DOES_NOT_STAND;
            }
            if (amount > table.get(mandate, EACH)) {
                return ABOVE_EACH;
            }
            return amount > leftFor(narrowestOfChain(mandate)) ? ABOVE_PERIOD : 0;
        }

        int mostUrgent(int mandate) {
            return table.get(mandate, EACH) / 2;
        }

        int greatestAmount(int mandate, boolean isUrgent) {
            if (!stands(mandate)) {
                return 0;
            }
            int atOnce = isUrgent ? mostUrgent(mandate) : table.get(mandate, EACH);
            int left = leftFor(narrowestOfChain(mandate));
            return Math.max(0, Math.min(atOnce, left));
        }

        /** What is left of its own limit for a period; below 0 if the limit was lowered since. */
        int leftFor(int mandate) {
            return table.get(mandate, PERIOD) - table.get(mandate, SUM);
        }

        int narrowestOfChain(int mandate) {
            int narrowest = mandate;
            int link = mandate;
            for (int step = 0; step < MOST_MANDATES && link >= 0; step++) {
                if (leftFor(link) < leftFor(narrowest)) {
                    narrowest = link;
                }
                link = table.get(link, UPPER);
            }
            return narrowest;
        }

        double shareUsed(int mandate) {
            int period = table.get(mandate, PERIOD);
            return period <= 0 ? 0.0 : (double) table.get(mandate, SUM) / (double) period;
        }

        void addSpending(int mandate, int amount) {
            table.put(mandate, SPENT, table.get(mandate, SPENT) + amount);
            int link = mandate;
            for (int step = 0; step < MOST_MANDATES && link >= 0; step++) {
                table.put(link, SUM, table.get(link, SUM) + amount);
                link = table.get(link, UPPER);
            }
        }

        void clearSums() {
            for (int mandate = 0; mandate < total(); mandate++) {
                table.put(mandate, SUM, 0);
            }
        }

        int standingTotal() {
            int standing = 0;
            for (int mandate = 0; mandate < total(); mandate++) {
                standing += stands(mandate) ? 1 : 0;
            }
            return standing;
        }

        int standingHeldBy(int person) {
            int held = 0;
            for (int mandate = 0; mandate < total(); mandate++) {
                held += stands(mandate) && table.get(mandate, HOLDER) == person ? 1 : 0;
            }
            return held;
        }

        int spentByHolder(int person) {
            int spent = 0;
            for (int mandate = 0; mandate < total(); mandate++) {
                spent += table.get(mandate, HOLDER) == person ? table.get(mandate, SPENT) : 0;
            }
            return spent;
        }

        static boolean isIn(int mask, int mandate) {
            return mandate >= 0 && mandate < MOST_MANDATES && ((mask >> mandate) & 1) == 1;
        }
    }

    /** All that undo brings back: the mandates, what waits, the day, the settings and what is counted. */
    private static final class Book {
        private static final int MANDATE = 0;
        private static final int AMOUNT = 1;
        private static final int ASKED_ON = 2;
        private static final int URGENT = 3;
        private static final int NEEDED = 4;
        private static final int APPROVED_BY = 5;
        private static final int WIDTH = 6;

        private static final int IS_DONE = 0;
        private static final int IS_OPEN = 1;
        private static final int WAITS_FOR_MORE = 0;
        private static final int IS_SETTLED = 1;
        private static final int HAS_FAILED = 2;

        private final Mandates mandates = new Mandates();
        private final Table requests = new Table(MOST_REQUESTS, WIDTH);
        private final int[] approvals = new int[PERSONS];
        private int day;
        private int grace = FIRST_GRACE;
        private int longestChain = FIRST_LONGEST_CHAIN;
        private int spent;
        private int spentInPeriod;
        private int spendings;
        private int urgentSpendings;
        private int droppedOrFailed;
        private int lapsedByLate;

        void copyFrom(Book other) {
            if (other == null) {
                return;
            }
            mandates.table.copyFrom(other.mandates.table);
            requests.copyFrom(other.requests);
            for (int person = 0; person < approvals.length && person < other.approvals.length; person++) {
                approvals[person] = other.approvals[person];
            }
            day = other.day;
            grace = other.grace;
            longestChain = other.longestChain;
            spent = other.spent;
            spentInPeriod = other.spentInPeriod;
            spendings = other.spendings;
            urgentSpendings = other.urgentSpendings;
            droppedOrFailed = other.droppedOrFailed;
            lapsedByLate = other.lapsedByLate;
        }

        boolean hasPlaceUnder(int upper, int each, int period) {
            if (mandates.table.isFull() || (upper != NONE && !mandates.stands(upper))) {
                return false;
            }
            return mandates.fitsUnder(upper, each, period) && mandates.chainLength(upper) < longestChain;
        }

        /** Lets a mandate lapse that stands, with all under it, and answers how many lapse. */
        int lapse(int mandate) {
            int mask = mandates.wouldLapse(mandate);
            mandates.lapseAll(mask, day);
            // From behind, as the numbers of those behind a dropped one change.
            for (int request = requests.rows - 1; request >= 0; request--) {
                if (!isUrgent(request) && Mandates.isIn(mask, requests.get(request, MANDATE))) {
                    requests.removeRow(request);
                    droppedOrFailed++;
                }
            }
            return Integer.bitCount(mask);
        }

        boolean canAskFor(int mandate, int amount, boolean isUrgent) {
            if (mandates.refusal(mandate, amount) != 0) {
                return false;
            }
            if (isUrgent && amount > mandates.mostUrgent(mandate)) {
                return false;
            }
            return mandates.get(mandate, Mandates.NEEDED) == 0 || !requests.isFull();
        }

        int carryOut(int mandate, int amount, boolean isUrgent) {
            int needed = mandates.get(mandate, Mandates.NEEDED);
            if (isUrgent || needed == 0) {
                makeSpending(mandate, amount);
            }
            if (isUrgent) {
                urgentSpendings++;
            }
            if (needed == 0) {
                return IS_DONE;
            }
            addRequest(mandate, amount, isUrgent, needed);
            return IS_OPEN;
        }

        boolean isUrgent(int request) {
            return requests.get(request, URGENT) == 1;
        }

        int couldApproveNow(int request) {
            return mandates.approversOf(requests.get(request, MANDATE)) & ~requests.get(request, APPROVED_BY);
        }

        boolean couldApprove(int request, int person) {
            return isPersonIn(couldApproveNow(request), person);
        }

        int addApproval(int request, int person) {
            if (person >= 0 && person < approvals.length) {
                approvals[person]++;
            }
            int approvedBy = requests.get(request, APPROVED_BY) | 1 << person;
            requests.put(request, APPROVED_BY, approvedBy);
            if (Integer.bitCount(approvedBy) < requests.get(request, NEEDED)) {
                return WAITS_FOR_MORE;
            }
            return settle(request);
        }

        /** Answers its amount. */
        int removeRequest(int request) {
            int amount = requests.get(request, AMOUNT);
            requests.removeRow(request);
            return amount;
        }

        /** Lets one day come, and answers how many mandates lapse on it. */
        int nextDay() {
            day++;
            if (day % DAYS_OF_PERIOD == 0) {
                mandates.clearSums();
                spentInPeriod = 0;
            }
            int lapsed = 0;
            for (int turn = 0; turn < MOST_REQUESTS; turn++) {
                int late = firstLate();
                if (late == NONE) {
                    break;
                }
                int mandate = requests.get(late, MANDATE);
                requests.removeRow(late);
                lapsed += lapse(mandate);
            }
            lapsedByLate += lapsed;
            return lapsed;
        }

        int changeSetting(int setting, int value) {
            int previous = settingValue(setting);
            if (setting == GRACE) {
                grace = value;
            } else {
                longestChain = value;
            }
            return previous;
        }

        int settingValue(int setting) {
            return setting == GRACE ? grace : longestChain;
        }

        int mandateProperty(int mandate, int what) {
            switch (what) {
                case 0: return mandates.get(mandate, Mandates.UPPER);
                case 1: return mandates.get(mandate, Mandates.HOLDER);
                case 2: return mandates.get(mandate, Mandates.EACH);
                case 3: return mandates.get(mandate, Mandates.PERIOD);
                case 4: return mandates.get(mandate, Mandates.NEEDED);
                case 5: return mandates.stands(mandate) ? 1 : 0;
                case 6: return mandates.get(mandate, Mandates.SUM);
                case 7: return mandates.get(mandate, Mandates.SPENT);
                case 8: return mandates.chainLength(mandate);
                case 9: return mandates.standingUnder(mandate);
                case 10: return waitingBy(mandate);
                default: return mandates.get(mandate, Mandates.LAPSED_ON);
            }
        }

        int requestProperty(int request, int what) {
            switch (what) {
                case 0: return requests.get(request, MANDATE);
                case 1: return requests.get(request, AMOUNT);
                case 2: return requests.get(request, ASKED_ON);
                case 3: return requests.get(request, URGENT);
                case 4: return requests.get(request, NEEDED);
                case 5: return requests.get(request, APPROVED_BY);
                default: return couldApproveNow(request);
            }
        }

        int personNumber(int person, int what) {
            switch (what) {
                case 0: return mandates.standingHeldBy(person);
                case 1: return mandates.spentByHolder(person);
                case 2: return person >= 0 && person < approvals.length ? approvals[person] : 0;
                default: return approvableBy(person);
            }
        }

        /** What count() answers, but for the saved states. */
        int number(int what) {
            switch (what) {
                case 0: return mandates.total();
                case 1: return mandates.standingTotal();
                case 2: return requests.rows;
                case 3: return day;
                case 4: return day / DAYS_OF_PERIOD;
                case 5: return spent;
                case 6: return spentInPeriod;
                case 7: return spendings;
                case 8: return urgentSpendings;
                case 9: return droppedOrFailed;
                default: return lapsedByLate;
            }
        }

        int daysUntilLapse(int mandate) {
            if (!mandates.stands(mandate)) {
                return NONE;
            }
            int chain = mandates.chainOf(mandate);
            int soonest = NONE;
            for (int request = 0; request < requests.rows; request++) {
                if (isUrgent(request) && Mandates.isIn(chain, requests.get(request, MANDATE))) {
                    int days = daysUntilLate(request);
                    soonest = soonest == NONE ? days : Math.min(soonest, days);
                }
            }
            return soonest;
        }

        /** At least 1, for only a day that passes finds an urgent one too late. */
        private int daysUntilLate(int request) {
            return Math.max(1, requests.get(request, ASKED_ON) + grace + 1 - day);
        }

        private int firstLate() {
            for (int request = 0; request < requests.rows; request++) {
                if (isUrgent(request) && day > requests.get(request, ASKED_ON) + grace) {
                    return request;
                }
            }
            return NONE;
        }

        private void makeSpending(int mandate, int amount) {
            mandates.addSpending(mandate, amount);
            spent += amount;
            spentInPeriod += amount;
            spendings++;
        }

        private void addRequest(int mandate, int amount, boolean isUrgent, int needed) {
            int request = requests.addRow();
            requests.put(request, MANDATE, mandate);
            requests.put(request, AMOUNT, amount);
            requests.put(request, ASKED_ON, day);
            requests.put(request, URGENT, isUrgent ? 1 : 0);
            requests.put(request, NEEDED, needed);
        }

        /** Ends a request that has its approvals; an urgent spending was made long before. */
        private int settle(int request) {
            boolean wasUrgent = isUrgent(request);
            int mandate = requests.get(request, MANDATE);
            int amount = removeRequest(request);
            if (wasUrgent) {
                return IS_SETTLED;
            }
            if (mandates.refusal(mandate, amount) != 0) {
                droppedOrFailed++;
                return HAS_FAILED;
            }
            makeSpending(mandate, amount);
            return IS_SETTLED;
        }

        private int waitingBy(int mandate) {
            int waiting = 0;
            for (int request = 0; request < requests.rows; request++) {
                waiting += requests.get(request, MANDATE) == mandate ? 1 : 0;
            }
            return waiting;
        }

        private int approvableBy(int person) {
            int approvable = 0;
            for (int request = 0; request < requests.rows; request++) {
                approvable += isPersonIn(couldApproveNow(request), person) ? 1 : 0;
            }
            return approvable;
        }

        private static boolean isPersonIn(int mask, int person) {
            return person >= 0 && person < PERSONS && ((mask >> person) & 1) == 1;
        }
    }

    /** The saved states, in a ring of books that are made once and used again. */
    private static final class History {
        private final Book[] ring = new Book[MOST_SAVED];
        private int oldest;
        private int kept;

        History() {
            for (int slot = 0; slot < ring.length; slot++) {
                ring[slot] = new Book();
            }
        }

        void keep(Book book) {
            copy(book, at((oldest + kept) % MOST_SAVED));
            if (kept < MOST_SAVED) {
                kept++;
            } else {
                oldest = (oldest + 1) % MOST_SAVED;
            }
        }

        /** Brings the latest saved state back into the book, and answers how many are left. */
        int restore(Book book) {
            if (kept > 0) {
                kept--;
                copy(at((oldest + kept) % MOST_SAVED), book);
            }
            return kept;
        }

        private Book at(int slot) {
            return slot >= 0 && slot < ring.length ? ring[slot] : null;
        }

        private static void copy(Book from, Book to) {
            if (from != null && to != null) {
                to.copyFrom(from);
            }
        }
    }

    /** The buffer, and how it is read: what a row of spendings may go on with, sign by sign. */
    private static final class Text {
        private static final int FIRST_CODE = 33;
        private static final int LAST_CODE = 126;

        private static final int WRONG = -1;
        private static final int AT_START = 0;
        private static final int AFTER_KIND = 1;
        private static final int AFTER_ONE = 2;
        private static final int AFTER_MANDATE = 3;
        private static final int AFTER_COLON = 4;
        private static final int AFTER_FIRST_DIGIT = 5;
        private static final int AFTER_LAST_DIGIT = 8;

        private final int[] codes = new int[MOST_CODES];
        private int length;

        boolean isFull() {
            return length >= codes.length;
        }

        /** Answers the new length. */
        int add(int code) {
            if (length >= 0 && length < codes.length) {
                codes[length] = code;
                length++;
            }
            return length;
        }

        /** Answers the length that it had. */
        int empty() {
            int previous = length;
            length = 0;
            return previous;
        }

        int codeAt(int index) {
            return index >= 0 && index < length && index < codes.length ? codes[index] : 0;
        }

        int errorIndex() {
            int state = AT_START;
            for (int index = 0; index < length; index++) {
                state = stateAfter(state, codeAt(index));
                if (state == WRONG) {
                    return index;
                }
            }
            return length;
        }

        boolean isComplete() {
            int state = AT_START;
            for (int index = 0; index < length; index++) {
                state = stateAfter(state, codeAt(index));
            }
            return state >= AFTER_FIRST_DIGIT;
        }

        int endOfNumber(int start) {
            int end = start;
            while (end < length && isDigit(codeAt(end))) {
                end++;
            }
            return end;
        }

        int numberIn(int start, int end) {
            int number = 0;
            for (int index = start; index < end; index++) {
                number = number * 10 + codeAt(index) - '0';
            }
            return number;
        }

        private static int stateAfter(int state, int code) {
            switch (state) {
                case AT_START:
                    return code == 's' || code == 'u' ? AFTER_KIND : WRONG;
                case AFTER_KIND:
                    return stateAfterMandateDigit(code);
                case AFTER_ONE:
                    return code == '0' || code == '1' ? AFTER_MANDATE : stateAfterMandate(code);
                case AFTER_MANDATE:
                    return stateAfterMandate(code);
                case AFTER_COLON:
                    return isDigit(code) && code != '0' ? AFTER_FIRST_DIGIT : WRONG;
                case WRONG:
                    return WRONG;
                default:
                    return stateAfterAmountDigit(state, code);
            }
        }

        private static int stateAfterMandateDigit(int code) {
            if (code == '1') {
                return AFTER_ONE;
            }
            return isDigit(code) ? AFTER_MANDATE : WRONG;
        }

        private static int stateAfterMandate(int code) {
            return code == ':' ? AFTER_COLON : WRONG;
        }

        private static int stateAfterAmountDigit(int state, int code) {
            if (code == ';') {
                return AT_START;
            }
            return isDigit(code) && state < AFTER_LAST_DIGIT ? state + 1 : WRONG;
        }

        private static boolean isDigit(int code) {
            return code >= '0' && code <= '9';
        }
    }
}
