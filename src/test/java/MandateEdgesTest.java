/**
 * What the document says of mandates (Terms, and promises 1 to 5), sentence by sentence: each that
 * names an edge has a test of its own.
 */
public final class MandateEdgesTest {
    private MandateEdgesTest() {
    }

    public static void main(String[] args) {
        terms();
        newObject();
        give();
        withdraw();
        limit();
        need();
        Checks.close();
    }

    // ---- Terms, Mandates

    private static void terms() {
        String where = "Terms";
        Checks.test(where, "There are at most 12 mandates, numbered from 0 in the order in which they came.",
                MandateEdgesTest::atMostTwelveInOrder);
        Checks.test(where, "A mandate lies under another one (its upper one) or under none (then it is of the board);",
                MandateEdgesTest::liesUnderOneOrNone);
        Checks.test(where, "it has a holder, 0 to 7, a limit for each spending, a limit for a period, and a number of "
                + "approvals that it needs, 0 to 3.", MandateEdgesTest::hasHolderLimitsAndNeeds);
        Checks.test(where, "Its chain is the mandate itself, its upper one, and so on, up to one of the board.",
                MandateEdgesTest::hasAChain);
        Checks.test(where, "A mandate stands, from its beginning until it lapses; one that has lapsed never stands "
                + "again.", MandateEdgesTest::standsUntilItLapses);
        Checks.test(where, "A mandate that lies under another one has limits that are at most those of its upper one.",
                MandateEdgesTest::hasNoMoreThanItsUpperOne);
        Checks.test(where, "When a mandate lapses, all mandates that lie under it, at once or over others, lapse, too;",
                MandateEdgesTest::lapsesWithAllUnderIt);
        Checks.test(where, "requests by any of these that wait are dropped (but not urgent spendings that are open).",
                MandateEdgesTest::dropsRequests);
    }

    private static void atMostTwelveInOrder() {
        LapseMandates book = new LapseMandates();
        for (int number = 0; number < 12; number++) {
            Checks.due("give", book.give(number % 3 == 0 ? -1 : number - 1, number % 8, 5, 5, 0), number);
            Checks.due("count(0)", book.count(0), number + 1);
        }
        Checks.dueThrow(book, "give, the 13th", Checks.ILLEGAL_STATE, () -> book.give(-1, 0, 5, 5, 0));
        for (int number = 0; number < 12; number++) {
            Checks.due("the holder of " + number, book.mandate(number, 1), number % 8);
        }
    }

    private static void liesUnderOneOrNone() {
        LapseMandates book = new LapseMandates();
        book.give(LapseMandates.NONE, 0, 5, 5, 0);
        book.give(0, 0, 5, 5, 0);
        book.give(0, 0, 5, 5, 0);
        book.give(1, 0, 5, 5, 0);
        int[] upper = {-1, 0, 0, 1};
        for (int number = 0; number < 4; number++) {
            Checks.due("the upper one of " + number, book.mandate(number, 0), upper[number]);
        }
        Checks.dueThrow(book, "give under itself", Checks.OUT_OF_BOUNDS, () -> book.give(4, 0, 5, 5, 0));
    }

    private static void hasHolderLimitsAndNeeds() {
        LapseMandates book = new LapseMandates();
        for (int number = 0; number < 8; number++) {
            book.give(-1, number, number + 1, 9999 - number, number % 4);
        }
        for (int number = 0; number < 8; number++) {
            Checks.due("holder", book.mandate(number, 1), number);
            Checks.due("limit for each spending", book.mandate(number, 2), number + 1);
            Checks.due("limit for a period", book.mandate(number, 3), 9999 - number);
            Checks.due("approvals", book.mandate(number, 4), number % 4);
        }
    }

    private static void hasAChain() {
        LapseMandates ladder = Books.ladder();
        for (int number = 0; number < 12; number++) {
            Checks.due("the chain of " + number, ladder.mandate(number, 8), number + 1);
        }
        LapseMandates tree = Books.tree();
        int[] chains = {1, 2, 3, 2, 3, 4, 1};
        for (int number = 0; number < 7; number++) {
            Checks.due("the chain of " + number, tree.mandate(number, 8), chains[number]);
        }
        tree.withdraw(0);
        Checks.due("the chain of a lapsed one", tree.mandate(5, 8), 4);
    }

    private static void standsUntilItLapses() {
        LapseMandates book = Books.chain(0);
        Checks.due("from its beginning", Books.standing(book), 0b111);
        book.spend(2, 200);
        book.limit(2, 1, 1);
        book.pass(60);
        Checks.due("all the time", Books.standing(book), 0b111);
        book.withdraw(1);
        Checks.due("until it lapses", Books.standing(book), 0b001);
        book.pass(60);
        book.give(0, 1, 300, 600, 0);
        book.limit(0, 9999, 9999);
        book.set(0, 30);
        Checks.due("never again", Books.standing(book), 0b1001);
        Checks.dueThrow(book, "spend(1, 1)", Checks.ILLEGAL_STATE, () -> book.spend(1, 1));
        Checks.dueThrow(book, "spend(2, 1)", Checks.ILLEGAL_STATE, () -> book.spend(2, 1));
    }

    private static void hasNoMoreThanItsUpperOne() {
        LapseMandates book = Books.one(50, 80, 0);
        Checks.due("as much", book.give(0, 0, 50, 80, 0), 1);
        Checks.dueThrow(book, "give, each more by 1", Checks.ILLEGAL_STATE, () -> book.give(0, 0, 51, 80, 0));
        Checks.dueThrow(book, "give, a period more by 1", Checks.ILLEGAL_STATE, () -> book.give(0, 0, 50, 81, 0));
        Checks.dueThrow(book, "limit, each more by 1", Checks.ILLEGAL_STATE, () -> book.limit(1, 51, 80));
        Checks.dueThrow(book, "limit, a period more by 1", Checks.ILLEGAL_STATE, () -> book.limit(1, 50, 81));
        Checks.dueThrow(book, "limit of the upper one, less by 1", Checks.ILLEGAL_STATE, () -> book.limit(0, 49, 80));
        Checks.dueThrow(book, "limit of the upper one, less by 1", Checks.ILLEGAL_STATE, () -> book.limit(0, 50, 79));
        Checks.due("limit of the upper one, more", book.limit(0, 51, 81), 80);
        Checks.due("limit, as much as it has now", book.limit(1, 51, 81), 80);
    }

    /** 0 - (1 - 3 - 5, 6), 2 - 4: those under one another stand among others. */
    private static void lapsesWithAllUnderIt() {
        LapseMandates book = new LapseMandates();
        int[] upper = {-1, 0, -1, 1, 2, 3, 0};
        for (int number = 0; number < 7; number++) {
            book.give(upper[number], number, 5, 5, 0);
        }
        Checks.due("withdraw(3)", book.withdraw(3), 2);
        Checks.due("it and the one under it", Books.standing(book), 0b1010111);
        Checks.due("withdraw(0)", book.withdraw(0), 3);
        Checks.due("all but the others", Books.standing(book), 0b0010100);
        LapseMandates ladder = Books.ladder();
        Checks.due("all twelve", ladder.withdraw(0), 12);
        Checks.due("none stands", Books.standing(ladder), 0);
    }

    private static void dropsRequests() {
        LapseMandates book = Books.tree();
        book.spend(2, 10);
        book.spend(3, 20);
        book.urge(4, 30);
        book.spend(4, 40);
        book.spend(2, 50);
        book.urge(2, 45);
        book.withdraw(1);
        int[] left = {20, 30, 45};
        Checks.due("three are left", book.count(2), 3);
        for (int request = 0; request < 3; request++) {
            Checks.due("what is left", book.request(request, 1), left[request]);
        }
        Checks.due("three were dropped", book.count(9), 3);
        LapseMandates six = Books.chain(1);
        for (int turn = 0; turn < 6; turn++) {
            six.spend(2, 1);
        }
        six.withdraw(0);
        Checks.due("all six are dropped", six.count(2), 0);
        Checks.due("six were dropped", six.count(9), 6);
    }

    // ---- Promise 1

    private static void newObject() {
        Checks.test("Promise 1", "Creates a book without mandates, on the day 0, with an empty buffer.",
                MandateEdgesTest::isEmpty);
        Checks.test("Terms", "`NONE = -1`: There is nothing to return.",
                () -> Checks.due("NONE", LapseMandates.NONE, -1));
    }

    private static void isEmpty() {
        LapseMandates used = Books.full();
        LapseMandates book = new LapseMandates();
        for (int what = 0; what < 12; what++) {
            Checks.due("count(" + what + ")", book.count(what), 0);
        }
        Checks.dueThrow(book, "mandate(0, 0)", Checks.OUT_OF_BOUNDS, () -> book.mandate(0, 0));
        Checks.dueThrow(book, "request(0, 0)", Checks.OUT_OF_BOUNDS, () -> book.request(0, 0));
        Checks.dueThrow(book, "undo()", Checks.ILLEGAL_STATE, () -> book.undo());
        for (int person = 0; person < 8; person++) {
            for (int what = 0; what < 4; what++) {
                Checks.due("person", book.person(person, what), 0);
            }
        }
        Checks.due("firstError()", book.firstError(), 0);
        Checks.due("clearBuffer()", book.clearBuffer(), 0);
        Checks.due("another object is as it was", used.count(0), 12);
    }

    // ---- Promise 2

    private static void give() {
        String where = "Promise 2";
        Checks.test(where, "Gives a mandate. Undoable.", MandateEdgesTest::giveIsUndone);
        Checks.test(where, "`upper`: the number of the mandate under which it lies, or NONE (of the board)",
                MandateEdgesTest::giveUnder);
        Checks.test(where, "`holder`: 0 to 7", MandateEdgesTest::giveToHolder);
        Checks.test(where, "`each`: the limit for each spending, 1 to 9999", MandateEdgesTest::giveEach);
        Checks.test(where, "`period`: the limit for a period, 1 to 9999", MandateEdgesTest::givePeriod);
        Checks.test(where, "`needed`: the approvals that it needs, 0 to 3", MandateEdgesTest::giveNeeded);
        Checks.test(where, "Returns its number.", MandateEdgesTest::giveTellsTheNumber);
        Checks.test(where, "Throws `IndexOutOfBoundsException` if upper is neither a mandate nor NONE",
                MandateEdgesTest::giveUnderNoMandate);
        Checks.test(where, "Throws `IllegalArgumentException` if another argument is out of range",
                MandateEdgesTest::giveOutOfRange);
        Checks.test(where, "Throws `IllegalStateException` if there are 12 mandates", MandateEdgesTest::giveWhenTwelve);
        Checks.test(where, "upper does not stand", MandateEdgesTest::giveUnderOneThatLapsed);
        Checks.test(where, "a limit is above that of upper", MandateEdgesTest::giveAboveUpper);
        Checks.test(where, "or its chain would have more mandates than setting 1", MandateEdgesTest::giveInALongChain);
    }

    private static void giveIsUndone() {
        LapseMandates book = Books.chain(1);
        long before = book.digest();
        book.give(1, 7, 9, 8, 3);
        Checks.due("one more", book.count(0), 4);
        Checks.due("one more stands", book.count(1), 4);
        Checks.due("one more under 0", book.mandate(0, 9), 3);
        Checks.due("undo()", book.undo(), 3);
        Checks.due("as before", book.digest(), before);
    }

    private static void giveUnder() {
        LapseMandates book = new LapseMandates();
        Checks.due("give under NONE", book.give(LapseMandates.NONE, 0, 5, 5, 0), 0);
        for (int number = 1; number < 12; number++) {
            book.give(-1, 0, 5, 5, 0);
            if (number == 10) {
                break;
            }
        }
        Checks.due("give under the last one", book.give(10, 0, 5, 5, 0), 11);
        Checks.due("its upper one", book.mandate(11, 0), 10);
    }

    private static void giveToHolder() {
        LapseMandates book = new LapseMandates();
        Checks.dueThrows(book, "give to", Checks.ILLEGAL_ARGUMENT, holder -> book.give(-1, holder, 5, 5, 0),
                Checks.MIN, -1, 8, Checks.MAX);
        Checks.due("give to 0", book.give(-1, 0, 5, 5, 0), 0);
        Checks.due("give to 7", book.give(-1, 7, 5, 5, 0), 1);
        Checks.due("the holder of 1", book.mandate(1, 1), 7);
    }

    private static void giveEach() {
        LapseMandates book = new LapseMandates();
        Checks.dueThrows(book, "give, each", Checks.ILLEGAL_ARGUMENT, each -> book.give(-1, 0, each, 5, 0),
                Checks.MIN, -1, 0, 10000, Checks.MAX);
        Checks.due("each 1", book.give(-1, 0, 1, 5, 0), 0);
        Checks.due("each 9999", book.give(-1, 0, 9999, 5, 0), 1);
        Checks.due("above its limit for a period", book.mandate(1, 2), 9999);
    }

    private static void givePeriod() {
        LapseMandates book = new LapseMandates();
        Checks.dueThrows(book, "give, period", Checks.ILLEGAL_ARGUMENT, period -> book.give(-1, 0, 5, period, 0),
                Checks.MIN, -1, 0, 10000, Checks.MAX);
        Checks.due("period 1", book.give(-1, 0, 5, 1, 0), 0);
        Checks.due("period 9999", book.give(-1, 0, 5, 9999, 0), 1);
        Checks.due("its limit for a period", book.mandate(1, 3), 9999);
    }

    private static void giveNeeded() {
        LapseMandates book = new LapseMandates();
        Checks.dueThrows(book, "give, needed", Checks.ILLEGAL_ARGUMENT, needed -> book.give(-1, 0, 5, 5, needed),
                Checks.MIN, -1, 4, Checks.MAX);
        Checks.due("needed 0", book.give(-1, 0, 5, 5, 0), 0);
        Checks.due("needed 3", book.give(-1, 0, 5, 5, 3), 1);
        Checks.due("the approvals that it needs", book.mandate(1, 4), 3);
    }

    private static void giveTellsTheNumber() {
        LapseMandates book = new LapseMandates();
        Checks.due("the first", book.give(-1, 0, 5, 5, 0), 0);
        Checks.due("the second", book.give(0, 0, 5, 5, 0), 1);
        book.withdraw(0);
        Checks.due("when the others lapsed", book.give(-1, 0, 5, 5, 0), 2);
        book.undo();
        Checks.due("when one was undone", book.give(-1, 1, 6, 6, 1), 2);
        Checks.due("it is the new one", book.mandate(2, 2), 6);
    }

    private static void giveUnderNoMandate() {
        LapseMandates empty = new LapseMandates();
        Checks.dueThrows(empty, "give under", Checks.OUT_OF_BOUNDS, upper -> empty.give(upper, 0, 5, 5, 0),
                Checks.MIN, -2, 0, 1, Checks.MAX);
        LapseMandates book = Books.chain(0);
        Checks.dueThrows(book, "give under", Checks.OUT_OF_BOUNDS, upper -> book.give(upper, 0, 5, 5, 0),
                Checks.MIN, -2, 3, 11, 12, Checks.MAX);
        Checks.due("give under the last one", book.give(2, 0, 5, 5, 0), 3);
    }

    private static void giveOutOfRange() {
        LapseMandates book = Books.ladder();
        Checks.dueThrow(book, "give to 8", Checks.ILLEGAL_ARGUMENT, () -> book.give(0, 8, 5, 5, 0));
        Checks.dueThrow(book, "give, each 0", Checks.ILLEGAL_ARGUMENT, () -> book.give(0, 0, 0, 5, 0));
        Checks.dueThrow(book, "give, period 0", Checks.ILLEGAL_ARGUMENT, () -> book.give(0, 0, 5, 0, 0));
        Checks.dueThrow(book, "give, needed 4", Checks.ILLEGAL_ARGUMENT, () -> book.give(0, 0, 5, 5, 4));
    }

    private static void giveWhenTwelve() {
        LapseMandates book = Books.twelve();
        Checks.dueThrow(book, "give, the 13th", Checks.ILLEGAL_STATE, () -> book.give(-1, 0, 5, 5, 0));
        for (int number = 0; number < 12; number++) {
            book.withdraw(number);
        }
        Checks.dueThrow(book, "give, when all have lapsed", Checks.ILLEGAL_STATE, () -> book.give(-1, 0, 5, 5, 0));
        LapseMandates undone = Books.twelve();
        undone.undo();
        Checks.due("give, when one was undone", undone.give(-1, 0, 5, 5, 0), 11);
    }

    private static void giveUnderOneThatLapsed() {
        LapseMandates book = Books.chain(1);
        book.withdraw(1);
        Checks.dueThrow(book, "give under 1, withdrawn", Checks.ILLEGAL_STATE, () -> book.give(1, 0, 5, 5, 0));
        Checks.dueThrow(book, "give under 2, lapsed with it", Checks.ILLEGAL_STATE, () -> book.give(2, 0, 5, 5, 0));
        book.urge(0, 1);
        Checks.due("give under 0, which stands", book.give(0, 0, 5, 5, 0), 3);
        book.pass(4);
        Checks.dueThrow(book, "give under 0, lapsed by days", Checks.ILLEGAL_STATE, () -> book.give(0, 0, 5, 5, 0));
    }

    private static void giveAboveUpper() {
        LapseMandates book = Books.chain(0);
        Checks.dueThrow(book, "give, each above", Checks.ILLEGAL_STATE, () -> book.give(2, 0, 201, 400, 0));
        Checks.dueThrow(book, "give, period above", Checks.ILLEGAL_STATE, () -> book.give(2, 0, 200, 401, 0));
        book.limit(2, 100, 300);
        Checks.dueThrow(book, "give, each above what it is now", Checks.ILLEGAL_STATE,
                () -> book.give(2, 0, 101, 300, 0));
        Checks.dueThrow(book, "give, period above what it is now", Checks.ILLEGAL_STATE,
                () -> book.give(2, 0, 100, 301, 0));
        Checks.due("give, as much", book.give(2, 0, 100, 300, 0), 3);
        Checks.due("give, of the board", book.give(-1, 0, 9999, 9999, 0), 4);
    }

    private static void giveInALongChain() {
        LapseMandates book = Books.chain(0);
        Checks.due("the fourth", book.give(2, 0, 5, 5, 0), 3);
        Checks.dueThrow(book, "give, the fifth", Checks.ILLEGAL_STATE, () -> book.give(3, 0, 5, 5, 0));
        book.set(1, 5);
        Checks.due("the fifth, when five may be", book.give(3, 0, 5, 5, 0), 4);
        book.set(1, 2);
        Checks.dueThrow(book, "give, the third, when two may be", Checks.ILLEGAL_STATE,
                () -> book.give(1, 0, 5, 5, 0));
        Checks.due("the second, when two may be", book.give(0, 0, 5, 5, 0), 5);
        book.set(1, 1);
        Checks.dueThrow(book, "give, the second, when one may be", Checks.ILLEGAL_STATE,
                () -> book.give(0, 0, 5, 5, 0));
        Checks.due("of the board, when one may be", book.give(-1, 0, 5, 5, 0), 6);
    }

    // ---- Promise 3

    private static void withdraw() {
        String where = "Promise 3";
        Checks.test(where, "Withdraws a mandate: it lapses. Undoable.", MandateEdgesTest::withdrawIsUndone);
        Checks.test(where, "Returns how many mandates lapse.", MandateEdgesTest::withdrawTellsHowMany);
        Checks.test(where, "Throws `IndexOutOfBoundsException` if there is no such mandate",
                MandateEdgesTest::withdrawNoMandate);
        Checks.test(where, "Throws `IllegalStateException` if it does not stand",
                MandateEdgesTest::withdrawOneThatLapsed);
    }

    private static void withdrawIsUndone() {
        LapseMandates book = Books.chain(1);
        Checks.write(book, "s2:5;u2:6");
        book.run();
        book.pass(2);
        long before = book.digest();
        book.withdraw(1);
        Checks.due("it lapses", book.mandate(1, 5), 0);
        Checks.due("on this day", book.mandate(1, 11), 2);
        Checks.due("undo()", book.undo(), 5);
        Checks.due("as before", book.digest(), before);
    }

    private static void withdrawTellsHowMany() {
        LapseMandates book = Books.tree();
        Checks.due("it alone", book.withdraw(6), 1);
        Checks.due("it and the one under it", book.withdraw(4), 2);
        Checks.due("not those that lapsed before", book.withdraw(1), 2);
        Checks.due("it and one of four", book.withdraw(0), 2);
    }

    private static void withdrawNoMandate() {
        LapseMandates empty = new LapseMandates();
        Checks.dueThrows(empty, "withdraw", Checks.OUT_OF_BOUNDS, empty::withdraw, -1, 0);
        LapseMandates book = Books.chain(0);
        Checks.dueThrows(book, "withdraw", Checks.OUT_OF_BOUNDS, book::withdraw, Checks.MIN, -1, 3, 12, Checks.MAX);
        Checks.due("the last one", book.withdraw(2), 1);
    }

    private static void withdrawOneThatLapsed() {
        LapseMandates book = Books.chain(1);
        book.withdraw(1);
        Checks.dueThrow(book, "withdraw again", Checks.ILLEGAL_STATE, () -> book.withdraw(1));
        Checks.dueThrow(book, "withdraw one lapsed with it", Checks.ILLEGAL_STATE, () -> book.withdraw(2));
        book.urge(0, 1);
        book.pass(4);
        Checks.dueThrow(book, "withdraw one lapsed by days", Checks.ILLEGAL_STATE, () -> book.withdraw(0));
    }

    // ---- Promise 4

    private static void limit() {
        String where = "Promise 4";
        Checks.test(where, "Changes the limits of a mandate. (Sums may be above them then.) Undoable.",
                MandateEdgesTest::limitIsUndone);
        Checks.test(where, "`each`: 1 to 9999", MandateEdgesTest::limitEach);
        Checks.test(where, "`period`: 1 to 9999", MandateEdgesTest::limitPeriod);
        Checks.test(where, "Returns the previous limit for a period.", MandateEdgesTest::limitTellsThePrevious);
        Checks.test(where, "Throws `IndexOutOfBoundsException` if there is no such mandate",
                MandateEdgesTest::limitNoMandate);
        Checks.test(where, "Throws `IllegalArgumentException` if each or period is out of range",
                MandateEdgesTest::limitOutOfRange);
        Checks.test(where, "Throws `IllegalStateException` if it does not stand",
                MandateEdgesTest::limitOfOneThatLapsed);
        Checks.test(where, "a limit is above that of its upper one", MandateEdgesTest::limitAboveUpper);
        Checks.test(where, "or one of a mandate that stands and lies under it at once would be above its own",
                MandateEdgesTest::limitBelowOneUnder);
    }

    private static void limitIsUndone() {
        LapseMandates book = Books.one(100, 300, 0);
        for (int turn = 0; turn < 3; turn++) {
            book.spend(0, 100);
        }
        long before = book.digest();
        book.limit(0, 20, 30);
        Checks.due("each", book.mandate(0, 2), 20);
        Checks.due("period", book.mandate(0, 3), 30);
        Checks.due("its sum is above", book.mandate(0, 6), 300);
        Checks.due("it is refused", book.whyNot(0, 1), 3);
        Checks.due("undo()", book.undo(), 4);
        Checks.due("as before", book.digest(), before);
    }

    private static void limitEach() {
        LapseMandates book = Books.one(5, 5, 0);
        Checks.dueThrows(book, "limit, each", Checks.ILLEGAL_ARGUMENT, each -> book.limit(0, each, 5),
                Checks.MIN, -1, 0, 10000, Checks.MAX);
        book.limit(0, 9999, 5);
        Checks.due("each 9999", book.mandate(0, 2), 9999);
        book.limit(0, 1, 5);
        Checks.due("each 1", book.mandate(0, 2), 1);
    }

    private static void limitPeriod() {
        LapseMandates book = Books.one(5, 5, 0);
        Checks.dueThrows(book, "limit, period", Checks.ILLEGAL_ARGUMENT, period -> book.limit(0, 5, period),
                Checks.MIN, -1, 0, 10000, Checks.MAX);
        book.limit(0, 5, 9999);
        Checks.due("period 9999", book.mandate(0, 3), 9999);
        book.limit(0, 5, 1);
        Checks.due("period 1", book.mandate(0, 3), 1);
    }

    private static void limitTellsThePrevious() {
        LapseMandates book = Books.one(7, 9999, 0);
        Checks.due("the first", book.limit(0, 8, 1), 9999);
        Checks.due("the second", book.limit(0, 9, 1), 1);
        Checks.due("the same again", book.limit(0, 9, 1), 1);
    }

    private static void limitNoMandate() {
        LapseMandates empty = new LapseMandates();
        Checks.dueThrows(empty, "limit of", Checks.OUT_OF_BOUNDS, mandate -> empty.limit(mandate, 5, 5), -1, 0);
        LapseMandates book = Books.chain(0);
        Checks.dueThrows(book, "limit of", Checks.OUT_OF_BOUNDS, mandate -> book.limit(mandate, 5, 5),
                Checks.MIN, -1, 3, 12, Checks.MAX);
        Checks.due("of the last one", book.limit(2, 5, 5), 400);
    }

    private static void limitOutOfRange() {
        LapseMandates book = Books.chain(0);
        book.withdraw(2);
        for (int mandate = 0; mandate < 3; mandate++) {
            int number = mandate;
            Checks.dueThrow(book, "each 0", Checks.ILLEGAL_ARGUMENT, () -> book.limit(number, 0, 600));
            Checks.dueThrow(book, "each 10000", Checks.ILLEGAL_ARGUMENT, () -> book.limit(number, 10000, 600));
            Checks.dueThrow(book, "period 0", Checks.ILLEGAL_ARGUMENT, () -> book.limit(number, 300, 0));
            Checks.dueThrow(book, "period 10000", Checks.ILLEGAL_ARGUMENT, () -> book.limit(number, 300, 10000));
        }
    }

    private static void limitOfOneThatLapsed() {
        LapseMandates book = Books.chain(1);
        book.withdraw(1);
        Checks.dueThrow(book, "limit of 1, withdrawn", Checks.ILLEGAL_STATE, () -> book.limit(1, 300, 600));
        Checks.dueThrow(book, "limit of 2, lapsed with it", Checks.ILLEGAL_STATE, () -> book.limit(2, 200, 400));
        book.urge(0, 1);
        Checks.due("of 0, which stands", book.limit(0, 500, 1000), 1000);
        book.pass(4);
        Checks.dueThrow(book, "limit of 0, lapsed by days", Checks.ILLEGAL_STATE, () -> book.limit(0, 500, 1000));
    }

    private static void limitAboveUpper() {
        LapseMandates book = Books.chain(0);
        Checks.dueThrow(book, "each above", Checks.ILLEGAL_STATE, () -> book.limit(1, 501, 1000));
        Checks.dueThrow(book, "period above", Checks.ILLEGAL_STATE, () -> book.limit(1, 500, 1001));
        Checks.due("as much", book.limit(1, 500, 1000), 600);
        Checks.dueThrow(book, "each above the one at once above", Checks.ILLEGAL_STATE,
                () -> book.limit(2, 501, 400));
        Checks.due("of the board, as much as can be", book.limit(0, 9999, 9999), 1000);
    }

    private static void limitBelowOneUnder() {
        LapseMandates book = Books.chain(0);
        Checks.dueThrow(book, "each below", Checks.ILLEGAL_STATE, () -> book.limit(1, 199, 600));
        Checks.dueThrow(book, "period below", Checks.ILLEGAL_STATE, () -> book.limit(1, 300, 399));
        Checks.due("as much", book.limit(1, 200, 400), 600);
        book.give(1, 3, 150, 350, 0);
        book.withdraw(2);
        Checks.dueThrow(book, "below the second one under it", Checks.ILLEGAL_STATE, () -> book.limit(1, 149, 350));
        Checks.dueThrow(book, "below the second one under it", Checks.ILLEGAL_STATE, () -> book.limit(1, 150, 349));
        Checks.due("below one that lapsed", book.limit(1, 150, 350), 400);
        Checks.due("not of one that lies elsewhere", book.limit(3, 1, 1), 350);
        Checks.due("of the one above them", book.limit(1, 1, 1), 350);
    }

    // ---- Promise 5

    private static void need() {
        String where = "Promise 5";
        Checks.test(where, "Changes how many approvals a mandate needs (of no matter for what waits).",
                MandateEdgesTest::needIsOfNoMatterForWhatWaits);
        Checks.test(where, "Undoable.", MandateEdgesTest::needIsUndone);
        Checks.test(where, "`needed`: 0 to 3", MandateEdgesTest::needEdges);
        Checks.test(where, "Returns the previous number.", MandateEdgesTest::needTellsThePrevious);
        Checks.test(where, "Throws `IndexOutOfBoundsException` if there is no such mandate",
                MandateEdgesTest::needNoMandate);
        Checks.test(where, "Throws `IllegalArgumentException` if needed is out of range",
                MandateEdgesTest::needOutOfRange);
        Checks.test(where, "Throws `IllegalStateException` if it does not stand",
                MandateEdgesTest::needOfOneThatLapsed);
    }

    private static void needIsOfNoMatterForWhatWaits() {
        LapseMandates book = Books.chain(2);
        book.spend(2, 5);
        book.urge(2, 6);
        book.need(2, 1);
        Checks.due("it needs one", book.mandate(2, 4), 1);
        Checks.due("what waits needs two", book.request(0, 4), 2);
        Checks.due("what is open needs two", book.request(1, 4), 2);
        Checks.due("one is not enough for it", book.approve(0, 0), 0);
        Checks.due("one is not enough for it", book.approve(1, 0), 0);
        book.need(2, 3);
        Checks.due("two are", book.approve(1, 1), 1);
        Checks.due("two are", book.approve(0, 1), 1);
    }

    private static void needIsUndone() {
        LapseMandates book = Books.chain(2);
        book.spend(2, 5);
        long before = book.digest();
        book.need(2, 1);
        Checks.due("undo()", book.undo(), 4);
        Checks.due("as before", book.digest(), before);
    }

    private static void needEdges() {
        LapseMandates book = Books.one(5, 5, 1);
        Checks.dueThrows(book, "need", Checks.ILLEGAL_ARGUMENT, needed -> book.need(0, needed),
                Checks.MIN, -1, 4, Checks.MAX);
        book.need(0, 3);
        Checks.due("needed 3", book.mandate(0, 4), 3);
        Checks.due("it waits", book.spend(0, 1), 1);
        book.need(0, 0);
        Checks.due("needed 0", book.mandate(0, 4), 0);
        Checks.due("it is made", book.spend(0, 1), 0);
    }

    private static void needTellsThePrevious() {
        LapseMandates book = Books.one(5, 5, 2);
        Checks.due("the first", book.need(0, 3), 2);
        Checks.due("the second", book.need(0, 0), 3);
        Checks.due("the third", book.need(0, 0), 0);
    }

    private static void needNoMandate() {
        LapseMandates empty = new LapseMandates();
        Checks.dueThrows(empty, "need of", Checks.OUT_OF_BOUNDS, mandate -> empty.need(mandate, 1), -1, 0);
        LapseMandates book = Books.chain(0);
        Checks.dueThrows(book, "need of", Checks.OUT_OF_BOUNDS, mandate -> book.need(mandate, 1),
                Checks.MIN, -1, 3, 12, Checks.MAX);
        Checks.due("of the last one", book.need(2, 1), 0);
    }

    private static void needOutOfRange() {
        LapseMandates book = Books.chain(0);
        book.withdraw(2);
        Checks.dueThrow(book, "need(0, 4)", Checks.ILLEGAL_ARGUMENT, () -> book.need(0, 4));
        Checks.dueThrow(book, "need(0, -1)", Checks.ILLEGAL_ARGUMENT, () -> book.need(0, -1));
        Checks.dueThrow(book, "need(2, 4)", Checks.ILLEGAL_ARGUMENT, () -> book.need(2, 4));
        Checks.dueThrow(book, "need(2, -1)", Checks.ILLEGAL_ARGUMENT, () -> book.need(2, -1));
    }

    private static void needOfOneThatLapsed() {
        LapseMandates book = Books.chain(1);
        book.withdraw(1);
        Checks.dueThrow(book, "need of 1, withdrawn", Checks.ILLEGAL_STATE, () -> book.need(1, 0));
        Checks.dueThrow(book, "need of 2, lapsed with it", Checks.ILLEGAL_STATE, () -> book.need(2, 0));
        book.urge(0, 1);
        Checks.due("of 0, which stands", book.need(0, 2), 1);
        book.pass(4);
        Checks.dueThrow(book, "need of 0, lapsed by days", Checks.ILLEGAL_STATE, () -> book.need(0, 0));
    }
}
