/** Promises 1 to 5, 17, 24 and 25: a new object, mandates, and what is told of them. */
public final class MandateTest {
    private MandateTest() {
    }

    public static void main(String[] args) {
        aNewBookIsEmpty();
        givesMandatesInOrder();
        refusesToGive();
        givesAtMostTwelve();
        countsTheChain();
        chainsAllTwelve();
        withdrawsAllThatLiesUnder();
        dropsRequestsButNotUrgentOnes();
        changesLimits();
        changesWhatIsNeeded();
        tellsProperties();
        tellsWhatWouldLapse();
        findsTheNarrowest();
        Checks.close();
    }

    private static void aNewBookIsEmpty() {
        LapseMandates book = new LapseMandates();
        Checks.due("NONE", LapseMandates.NONE, -1);
        for (int what = 0; what < 12; what++) {
            Checks.due("new: count(" + what + ")", book.count(what), 0);
        }
        for (int person = 0; person < 8; person++) {
            for (int what = 0; what < 4; what++) {
                Checks.due("new: person", book.person(person, what), 0);
            }
        }
        Checks.due("new: setting(0)", book.setting(0), 3);
        Checks.due("new: setting(1)", book.setting(1), 4);
        Checks.due("new: clearBuffer()", book.clearBuffer(), 0);
        Checks.dueThrow(book, "new: undo()", Checks.ILLEGAL_STATE, () -> book.undo());
        Checks.dueThrow(book, "new: mandate(0, 0)", Checks.OUT_OF_BOUNDS, () -> book.mandate(0, 0));
    }

    private static void givesMandatesInOrder() {
        LapseMandates book = new LapseMandates();
        Checks.due("give: 0", book.give(-1, 0, 9999, 9999, 0), 0);
        Checks.due("give: 1", book.give(0, 7, 1, 1, 3), 1);
        Checks.due("give: 2, as its upper one", book.give(0, 7, 9999, 9999, 3), 2);
        Checks.due("give: 3, of the board", book.give(-1, 1, 1, 9999, 0), 3);
        Checks.due("give: count(0)", book.count(0), 4);
        Checks.due("give: count(1)", book.count(1), 4);
        Checks.due("give: saved states", book.count(11), 4);
    }

    private static void refusesToGive() {
        LapseMandates book = new LapseMandates();
        book.give(-1, 0, 50, 80, 0);
        book.give(0, 0, 50, 80, 0);
        book.withdraw(1);
        Checks.dueThrow(book, "give: upper 2", Checks.OUT_OF_BOUNDS, () -> book.give(2, 0, 1, 1, 0));
        Checks.dueThrow(book, "give: upper -2", Checks.OUT_OF_BOUNDS, () -> book.give(-2, 9, 0, 0, 9));
        Checks.dueThrow(book, "give: upper MIN", Checks.OUT_OF_BOUNDS,
                () -> book.give(Integer.MIN_VALUE, 0, 1, 1, 0));
        Checks.dueThrow(book, "give: upper MAX", Checks.OUT_OF_BOUNDS,
                () -> book.give(Integer.MAX_VALUE, 0, 1, 1, 0));
        Checks.dueThrow(book, "give: holder -1", Checks.ILLEGAL_ARGUMENT, () -> book.give(-1, -1, 1, 1, 0));
        Checks.dueThrow(book, "give: holder 8", Checks.ILLEGAL_ARGUMENT, () -> book.give(1, 8, 1, 1, 0));
        Checks.dueThrow(book, "give: each 0", Checks.ILLEGAL_ARGUMENT, () -> book.give(-1, 0, 0, 1, 0));
        Checks.dueThrow(book, "give: each 10000", Checks.ILLEGAL_ARGUMENT, () -> book.give(0, 0, 10000, 1, 0));
        Checks.dueThrow(book, "give: period 0", Checks.ILLEGAL_ARGUMENT, () -> book.give(-1, 0, 1, 0, 0));
        Checks.dueThrow(book, "give: period 10000", Checks.ILLEGAL_ARGUMENT, () -> book.give(0, 0, 1, 10000, 0));
        Checks.dueThrow(book, "give: needed -1", Checks.ILLEGAL_ARGUMENT, () -> book.give(-1, 0, 1, 1, -1));
        Checks.dueThrow(book, "give: needed 4", Checks.ILLEGAL_ARGUMENT, () -> book.give(1, 0, 1, 1, 4));
        Checks.dueThrow(book, "give: under a lapsed one", Checks.ILLEGAL_STATE, () -> book.give(1, 0, 1, 1, 0));
        Checks.dueThrow(book, "give: each above", Checks.ILLEGAL_STATE, () -> book.give(0, 0, 51, 80, 0));
        Checks.dueThrow(book, "give: period above", Checks.ILLEGAL_STATE, () -> book.give(0, 0, 50, 81, 0));
        Checks.due("give: as much as its upper one", book.give(0, 0, 50, 80, 0), 2);
    }

    private static void givesAtMostTwelve() {
        LapseMandates book = new LapseMandates();
        for (int number = 0; number < 12; number++) {
            Checks.due("give: of twelve", book.give(-1, number % 8, 5, 5, 0), number);
        }
        Checks.dueThrow(book, "give: the 13th", Checks.ILLEGAL_STATE, () -> book.give(-1, 0, 5, 5, 0));
        book.withdraw(3);
        Checks.dueThrow(book, "give: the 13th, one lapsed", Checks.ILLEGAL_STATE,
                () -> book.give(-1, 0, 5, 5, 0));
        Checks.dueThrow(book, "give: the 13th, wrong", Checks.ILLEGAL_ARGUMENT,
                () -> book.give(-1, 0, 5, 0, 0));
        Checks.due("give: count(0)", book.count(0), 12);
    }

    private static void countsTheChain() {
        LapseMandates book = new LapseMandates();
        book.give(-1, 0, 5, 5, 0);
        book.give(0, 0, 5, 5, 0);
        book.give(1, 0, 5, 5, 0);
        Checks.due("give: the fourth in a chain", book.give(2, 0, 5, 5, 0), 3);
        Checks.dueThrow(book, "give: the fifth in a chain", Checks.ILLEGAL_STATE,
                () -> book.give(3, 0, 5, 5, 0));
        book.set(1, 5);
        Checks.due("give: the fifth, when five may be", book.give(3, 0, 5, 5, 0), 4);
        book.set(1, 1);
        Checks.dueThrow(book, "give: under one, when one may be", Checks.ILLEGAL_STATE,
                () -> book.give(0, 0, 5, 5, 0));
        Checks.due("give: of the board, when one may be", book.give(-1, 0, 5, 5, 0), 5);
        Checks.due("mandate(4, 8)", book.mandate(4, 8), 5);
        book.set(1, 12);
        for (int number = 6; number < 12; number++) {
            book.give(number == 6 ? 4 : number - 1, 0, 5, 5, 0);
        }
        Checks.due("mandate(11, 8)", book.mandate(11, 8), 11);
        Checks.due("mandate(0, 9)", book.mandate(0, 9), 10);
    }

    private static void chainsAllTwelve() {
        LapseMandates book = new LapseMandates();
        book.set(1, 12);
        for (int number = 0; number < 12; number++) {
            book.give(number - 1, number == 0 ? 7 : number % 3, 100, 100, number == 11 ? 1 : 0);
        }
        Checks.due("twelve: mandate(11, 8)", book.mandate(11, 8), 12);
        Checks.due("twelve: mandate(0, 9)", book.mandate(0, 9), 11);
        Checks.due("twelve: under(0)", book.under(0), 4095);
        book.spend(11, 30);
        Checks.due("twelve: who can approve", book.request(0, 6), 0b10000011);
        Checks.due("twelve: the topmost approves", book.approve(0, 7), 1);
        Checks.due("twelve: it counts for the topmost", book.mandate(0, 6), 30);
        book.spend(0, 60);
        Checks.due("twelve: narrowest(11)", book.narrowest(11), 0);
        Checks.due("twelve: room(11)", book.room(11, false), 10);
        Checks.due("twelve: whyNot(11, 11)", book.whyNot(11, 11), 3);
        Checks.due("twelve: withdraw(0)", book.withdraw(0), 12);
    }

    private static void withdrawsAllThatLiesUnder() {
        LapseMandates book = Books.tree();
        book.pass(7);
        Checks.due("withdraw(4)", book.withdraw(4), 2);
        book.pass(1);
        Checks.due("withdraw(1), two lapsed before", book.withdraw(1), 2);
        int[] days = {-1, 8, 8, -1, 7, 7, -1};
        for (int mandate = 0; mandate < 7; mandate++) {
            Checks.due("withdraw: mandate(" + mandate + ", 11)", book.mandate(mandate, 11), days[mandate]);
            Checks.due("withdraw: mandate(" + mandate + ", 5)", book.mandate(mandate, 5),
                    days[mandate] == -1 ? 1 : 0);
        }
        Checks.due("withdraw: count(1)", book.count(1), 3);
        Checks.due("withdraw: count(10)", book.count(10), 0);
        Checks.dueThrow(book, "withdraw(1) again", Checks.ILLEGAL_STATE, () -> book.withdraw(1));
        Checks.dueThrow(book, "withdraw(2), lapsed with 1", Checks.ILLEGAL_STATE, () -> book.withdraw(2));
        Checks.dueThrow(book, "withdraw(7)", Checks.OUT_OF_BOUNDS, () -> book.withdraw(7));
        Checks.dueThrow(book, "withdraw(-1)", Checks.OUT_OF_BOUNDS, () -> book.withdraw(-1));
        Checks.due("withdraw(0)", book.withdraw(0), 2);
    }

    private static void dropsRequestsButNotUrgentOnes() {
        LapseMandates book = Books.tree();
        book.spend(2, 10);
        book.spend(3, 20);
        book.urge(4, 30);
        book.spend(4, 40);
        book.spend(2, 50);
        book.withdraw(1);
        Checks.due("dropped: count(9)", book.count(9), 3);
        Checks.due("dropped: count(2)", book.count(2), 2);
        Checks.due("dropped: the first left", book.request(0, 1), 20);
        Checks.due("dropped: the second left", book.request(1, 1), 30);
        Checks.due("dropped: mandate(4, 10)", book.mandate(4, 10), 1);
        Checks.due("dropped: mandate(2, 10)", book.mandate(2, 10), 0);
        Checks.due("an urgent one of a lapsed mandate is approved", book.approve(1, 1), 1);
        Checks.due("what was spent stays spent", book.count(5), 30);
    }

    private static void changesLimits() {
        LapseMandates book = Books.tree();
        Checks.dueThrow(book, "limit: no such", Checks.OUT_OF_BOUNDS, () -> book.limit(7, 0, 0));
        Checks.dueThrow(book, "limit: -1", Checks.OUT_OF_BOUNDS, () -> book.limit(-1, 1, 1));
        Checks.dueThrow(book, "limit: each 0", Checks.ILLEGAL_ARGUMENT, () -> book.limit(6, 0, 1));
        Checks.dueThrow(book, "limit: each 10000", Checks.ILLEGAL_ARGUMENT, () -> book.limit(6, 10000, 1));
        Checks.dueThrow(book, "limit: period 0", Checks.ILLEGAL_ARGUMENT, () -> book.limit(6, 1, 0));
        Checks.dueThrow(book, "limit: period 10000", Checks.ILLEGAL_ARGUMENT, () -> book.limit(6, 1, 10000));
        Checks.dueThrow(book, "limit: each above upper", Checks.ILLEGAL_STATE, () -> book.limit(1, 101, 900));
        Checks.dueThrow(book, "limit: period above upper", Checks.ILLEGAL_STATE, () -> book.limit(1, 100, 1001));
        Checks.dueThrow(book, "limit: each below one under", Checks.ILLEGAL_STATE, () -> book.limit(1, 99, 900));
        Checks.dueThrow(book, "limit: period below one under", Checks.ILLEGAL_STATE, () -> book.limit(1, 100, 799));
        Checks.due("limit: as one under it", book.limit(1, 100, 800), 900);
        Checks.due("limit: as its upper one", book.limit(1, 100, 1000), 800);
        Checks.due("limit: of the board", book.limit(6, 9999, 9999), 400);
        Checks.due("limit: its limit for each", book.mandate(6, 2), 9999);
        Checks.due("limit: its limit for a period", book.mandate(6, 3), 9999);
        book.withdraw(2);
        Checks.due("limit: a lapsed one under it is passed over", book.limit(1, 100, 600), 1000);
        Checks.dueThrow(book, "limit: lapsed", Checks.ILLEGAL_STATE, () -> book.limit(2, 1, 1));
        Checks.dueThrow(book, "limit: lapsed, each 0", Checks.ILLEGAL_ARGUMENT, () -> book.limit(2, 0, 1));
        book.spend(6, 400);
        Checks.due("limit: below its sum", book.limit(6, 300, 100), 9999);
        Checks.due("limit: no room then", book.room(6, false), 0);
        Checks.due("limit: refused then", book.whyNot(6, 1), 3);
    }

    private static void changesWhatIsNeeded() {
        LapseMandates book = Books.tree();
        book.spend(2, 10);
        Checks.due("need(2, 0)", book.need(2, 0), 2);
        Checks.due("need: what waits needs the same", book.request(0, 4), 2);
        Checks.due("need: mandate(2, 4)", book.mandate(2, 4), 0);
        Checks.due("need: made at once now", book.spend(2, 10), 0);
        Checks.due("need(2, 3)", book.need(2, 3), 0);
        Checks.dueThrow(book, "need: 4", Checks.ILLEGAL_ARGUMENT, () -> book.need(2, 4));
        Checks.dueThrow(book, "need: -1", Checks.ILLEGAL_ARGUMENT, () -> book.need(2, -1));
        Checks.dueThrow(book, "need: no such", Checks.OUT_OF_BOUNDS, () -> book.need(7, 9));
        Checks.dueThrow(book, "need: -1 th", Checks.OUT_OF_BOUNDS, () -> book.need(-1, 0));
        book.withdraw(2);
        Checks.dueThrow(book, "need: lapsed", Checks.ILLEGAL_STATE, () -> book.need(2, 0));
        Checks.dueThrow(book, "need: lapsed, 4", Checks.ILLEGAL_ARGUMENT, () -> book.need(2, 4));
    }

    private static void tellsProperties() {
        LapseMandates book = Books.tree();
        book.spend(5, 60);
        book.spend(1, 7);
        book.spend(4, 5);
        book.urge(4, 6);
        int[] one = {0, 1, 100, 900, 0, 1, 73, 7, 2, 3, 0, -1};
        int[] four = {1, 4, 100, 600, 1, 1, 66, 6, 3, 1, 2, -1};
        for (int what = 0; what < 12; what++) {
            Checks.due("mandate(1, " + what + ")", book.mandate(1, what), one[what]);
            Checks.due("mandate(4, " + what + ")", book.mandate(4, what), four[what]);
        }
        Checks.due("mandate(6, 0)", book.mandate(6, 0), -1);
        Checks.dueThrow(book, "mandate(7, 12)", Checks.OUT_OF_BOUNDS, () -> book.mandate(7, 12));
        Checks.dueThrow(book, "mandate(-1, 0)", Checks.OUT_OF_BOUNDS, () -> book.mandate(-1, 0));
        Checks.dueThrow(book, "mandate(0, 12)", Checks.ILLEGAL_ARGUMENT, () -> book.mandate(0, 12));
        Checks.dueThrow(book, "mandate(0, -1)", Checks.ILLEGAL_ARGUMENT, () -> book.mandate(0, -1));
        book.pass(3);
        book.withdraw(1);
        Checks.due("a lapsed one's sum stays in the period", book.mandate(1, 6), 73);
        Checks.due("none stands under a lapsed one", book.mandate(1, 9), 0);
        Checks.due("the day on which it lapsed", book.mandate(5, 11), 3);
        book.pass(7);
        Checks.due("the next period begins without a sum", book.mandate(1, 6), 0);
        Checks.due("what it spent so far stays", book.mandate(1, 7), 7);
    }

    private static void tellsWhatWouldLapse() {
        LapseMandates book = Books.tree();
        Checks.due("under(0)", book.under(0), 0b111111);
        Checks.due("under(1)", book.under(1), 0b110110);
        Checks.due("under(6)", book.under(6), 0b1000000);
        book.withdraw(4);
        Checks.due("under(1), when 4 has lapsed", book.under(1), 0b110);
        Checks.due("under(5), lapsed", book.under(5), 0);
        Checks.dueThrow(book, "under(7)", Checks.OUT_OF_BOUNDS, () -> book.under(7));
        Checks.dueThrow(book, "under(-1)", Checks.OUT_OF_BOUNDS, () -> book.under(-1));
    }

    private static void findsTheNarrowest() {
        LapseMandates book = new LapseMandates();
        book.give(-1, 0, 500, 500, 0);
        book.give(0, 1, 500, 500, 0);
        book.give(1, 2, 400, 400, 0);
        Checks.due("narrowest(2)", book.narrowest(2), 2);
        Checks.due("narrowest(1), of two the nearest", book.narrowest(1), 1);
        book.spend(0, 100);
        Checks.due("narrowest(2), even with one above", book.narrowest(2), 2);
        Checks.due("narrowest(1), above", book.narrowest(1), 0);
        book.spend(1, 50);
        Checks.due("narrowest(2), the topmost", book.narrowest(2), 0);
        book.limit(2, 1, 349);
        Checks.due("narrowest(2), by one", book.narrowest(2), 2);
        book.withdraw(0);
        Checks.due("narrowest(2), lapsed", book.narrowest(2), 2);
        Checks.dueThrow(book, "narrowest(3)", Checks.OUT_OF_BOUNDS, () -> book.narrowest(3));
        Checks.dueThrow(book, "narrowest(-1)", Checks.OUT_OF_BOUNDS, () -> book.narrowest(-1));
    }
}
