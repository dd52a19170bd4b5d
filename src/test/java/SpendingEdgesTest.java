/**
 * What the document says of days and spendings (Terms: days, periods, sums, and spendings),
 * sentence by sentence: each that names an edge has a test of its own.
 */
public final class SpendingEdgesTest {
    private SpendingEdgesTest() {
    }

    public static void main(String[] args) {
        days();
        reasons();
        waiting();
        approving();
        urgent();
        passing();
        settings();
        Checks.close();
    }

    // ---- Terms: days, periods, sums

    private static void days() {
        String where = "Terms, days";
        Checks.test(where, "There is a number of the day, at first 0;",
                () -> Checks.due("count(3)", new LapseMandates().count(3), 0));
        Checks.test(where, "the period of a day is the day divided by 10, rounded down.",
                SpendingEdgesTest::periodOfADay);
        Checks.test(where, "A spending by a mandate counts for each mandate of its chain:",
                SpendingEdgesTest::countsForTheChain);
        Checks.test(where, "the sum of a mandate is what was spent by it and by those under it in the present period.",
                SpendingEdgesTest::sumOfThePeriod);
    }

    private static void periodOfADay() {
        LapseMandates book = new LapseMandates();
        int[][] days = {{0, 0}, {1, 0}, {9, 0}, {10, 1}, {11, 1}, {19, 1}, {20, 2}, {79, 7}, {80, 8}, {4999, 499},
            {5000, 500}};
        for (int[] day : days) {
            Books.passTo(book, day[0]);
            Checks.due("the day", book.count(3), day[0]);
            Checks.due("the period of day " + day[0], book.count(4), day[1]);
        }
    }

    private static void countsForTheChain() {
        LapseMandates ladder = Books.ladder();
        ladder.need(11, 0);
        ladder.spend(11, 30);
        ladder.spend(5, 7);
        for (int number = 0; number < 12; number++) {
            Checks.due("the sum of " + number, ladder.mandate(number, 6), number <= 5 ? 37 : 30);
        }
        LapseMandates tree = Books.tree();
        tree.spend(5, 9);
        int[] sums = {9, 9, 0, 0, 9, 9, 0};
        for (int number = 0; number < 7; number++) {
            Checks.due("the sum of " + number, tree.mandate(number, 6), sums[number]);
        }
    }

    private static void sumOfThePeriod() {
        LapseMandates book = Books.chain(0);
        Books.passTo(book, 9);
        book.spend(2, 70);
        Checks.due("the last day of the period", book.mandate(0, 6), 70);
        book.pass(1);
        for (int number = 0; number < 3; number++) {
            Checks.due("the first day of the next", book.mandate(number, 6), 0);
        }
        book.spend(2, 30);
        book.spend(1, 5);
        book.withdraw(2);
        Books.passTo(book, 19);
        Checks.due("with what was spent by one that lapsed", book.mandate(1, 6), 35);
        Checks.due("a lapsed one's, too", book.mandate(2, 6), 30);
        book.pass(1);
        Checks.due("the first day of the third", book.mandate(1, 6), 0);
        Checks.due("a lapsed one's, too", book.mandate(2, 6), 0);
        book.spend(1, 8);
        book.pass(60);
        Checks.due("six periods on", book.mandate(1, 6), 0);
    }

    // ---- Terms, spendings: reasons

    private static void reasons() {
        String where = "Terms, spendings";
        Checks.test(where, "A spending is refused for one of these reasons, of which the first one is told:",
                SpendingEdgesTest::firstReasonIsTold);
        Checks.test(where, "1 the mandate does not stand;", SpendingEdgesTest::refusedAsItDoesNotStand);
        Checks.test(where, "2 the amount is above its limit for each spending;",
                SpendingEdgesTest::refusedAsAboveEach);
        Checks.test(where, "3 for some mandate of its chain the sum would be above its limit for a period.",
                SpendingEdgesTest::refusedAsAboveThePeriod);
        Checks.test(where, "(0: it is not refused.)", SpendingEdgesTest::notRefused);
        Checks.test(where, "If a spending that is asked for is not refused, and the mandate needs no approval, it is "
                + "made.", SpendingEdgesTest::isMade);
    }

    private static void firstReasonIsTold() {
        LapseMandates book = Books.one(100, 150, 0);
        book.spend(0, 100);
        Checks.due("2, before 3", book.whyNot(0, 101), 2);
        Checks.due("3", book.whyNot(0, 51), 3);
        book.withdraw(0);
        Checks.due("1, before 2 and 3", book.whyNot(0, 101), 1);
        Checks.due("1, before 3", book.whyNot(0, 51), 1);
        Checks.due("1, alone", book.whyNot(0, 50), 1);
        LapseMandates each = Books.one(100, 9999, 0);
        each.withdraw(0);
        Checks.due("1, before 2", each.whyNot(0, 101), 1);
    }

    private static void refusedAsItDoesNotStand() {
        LapseMandates book = Books.chain(1);
        book.withdraw(1);
        Checks.due("withdrawn", book.whyNot(1, 1), 1);
        Checks.due("lapsed with it", book.whyNot(2, 1), 1);
        Checks.due("the one above stands", book.whyNot(0, 1), 0);
        book.urge(0, 1);
        book.pass(4);
        Checks.due("lapsed by days", book.whyNot(0, 1), 1);
    }

    private static void refusedAsAboveEach() {
        LapseMandates book = Books.chain(0);
        int[] each = {500, 300, 200};
        for (int number = 0; number < 3; number++) {
            Checks.due("as much", book.whyNot(number, each[number]), 0);
            Checks.due("more by 1", book.whyNot(number, each[number] + 1), 2);
        }
        book.limit(2, 199, 400);
        Checks.due("as much as it is now", book.whyNot(2, 199), 0);
        Checks.due("more by 1 than it is now", book.whyNot(2, 200), 2);
    }

    /** Its own limit, that of the one above, and that of the topmost hold it back, one after the other. */
    private static void refusedAsAboveThePeriod() {
        LapseMandates book = Books.chain(0);
        book.spend(2, 200);
        book.spend(2, 100);
        Checks.due("as much, its own", book.whyNot(2, 100), 0);
        Checks.due("more by 1, its own", book.whyNot(2, 101), 3);
        book.spend(1, 201);
        Checks.due("as much, of the one above", book.whyNot(2, 99), 0);
        Checks.due("more by 1, of the one above", book.whyNot(2, 100), 3);
        book.spend(0, 401);
        Checks.due("as much, of the topmost", book.whyNot(2, 98), 0);
        Checks.due("more by 1, of the topmost", book.whyNot(2, 99), 3);
        book.spend(2, 98);
        Checks.due("nothing is left", book.whyNot(2, 1), 3);
        Checks.due("nor of the topmost", book.whyNot(0, 1), 3);
        book.pass(9);
        Checks.due("the last day of the period", book.whyNot(2, 1), 3);
        book.pass(1);
        Checks.due("the next period", book.whyNot(2, 200), 0);
        LapseMandates ladder = Books.ladder();
        ladder.spend(0, 1);
        Checks.due("as much, of the topmost of twelve", ladder.whyNot(11, 99), 0);
        Checks.due("more by 1, of the topmost of twelve", ladder.whyNot(11, 100), 3);
    }

    private static void notRefused() {
        LapseMandates book = Books.one(9999, 9999, 3);
        Checks.due("the least", book.whyNot(0, 1), 0);
        Checks.due("the greatest", book.whyNot(0, 9999), 0);
        for (int turn = 0; turn < 6; turn++) {
            book.spend(0, 1);
        }
        Checks.due("six wait, which is no reason", book.whyNot(0, 1), 0);
    }

    private static void isMade() {
        LapseMandates book = Books.chain(0);
        book.need(1, 1);
        Checks.due("made, as it needs none itself", book.spend(2, 200), 0);
        Checks.due("it is spent", book.mandate(2, 7), 200);
        Checks.due("a spending more", book.count(7), 1);
        Checks.due("nothing waits", book.count(2), 0);
        Checks.due("it waits", book.spend(1, 1), 1);
    }

    // ---- Terms, spendings: what waits

    private static void waiting() {
        String where = "Terms, spendings";
        Checks.test(where, "If it needs some, it is a request that waits (at most 6 wait, numbered from 0;",
                SpendingEdgesTest::atMostSixWait);
        Checks.test(where, "if one is gone, those behind it have numbers that are less by 1).",
                SpendingEdgesTest::thoseBehindMoveUp);
    }

    private static void atMostSixWait() {
        LapseMandates book = Books.chain(1);
        for (int request = 0; request < 6; request++) {
            Checks.due("it waits", request == 3 ? book.urge(2, 10 + request) : book.spend(1, 10 + request), 1);
            Checks.due("how many wait", book.count(2), request + 1);
        }
        Checks.dueThrow(book, "spend, the 7th", Checks.ILLEGAL_STATE, () -> book.spend(1, 1));
        Checks.dueThrow(book, "urge, the 7th", Checks.ILLEGAL_STATE, () -> book.urge(1, 1));
        for (int request = 0; request < 6; request++) {
            Checks.due("the amount of " + request, book.request(request, 1), 10 + request);
        }
        Checks.due("nothing is spent, but by the urgent one", book.count(5), 13);
        Checks.dueThrow(book, "request(6, 0)", Checks.OUT_OF_BOUNDS, () -> book.request(6, 0));
    }

    private static void dueAmounts(String name, LapseMandates book, int... amounts) {
        Checks.due(name + ": how many wait", book.count(2), amounts.length);
        for (int request = 0; request < amounts.length; request++) {
            Checks.due(name + ": the amount of " + request, book.request(request, 1), amounts[request]);
        }
    }

    private static LapseMandates withSix() {
        LapseMandates book = Books.chain(1);
        for (int request = 0; request < 6; request++) {
            book.spend(2 - request % 2, 10 + request);
        }
        return book;
    }

    private static void thoseBehindMoveUp() {
        LapseMandates book = withSix();
        book.takeBack(5);
        dueAmounts("the last is taken back", book, 10, 11, 12, 13, 14);
        book.takeBack(0);
        dueAmounts("the first is taken back", book, 11, 12, 13, 14);
        book.approve(1, 0);
        dueAmounts("one is made", book, 11, 13, 14);
        book.limit(2, 1, 1);
        book.approve(2, 0);
        dueAmounts("one has failed", book, 11, 13);
        LapseMandates lapsed = withSix();
        lapsed.withdraw(2);
        dueAmounts("three are dropped", lapsed, 11, 13, 15);
        LapseMandates late = Books.chain(1);
        late.spend(1, 20);
        late.urge(2, 21);
        late.spend(1, 22);
        late.approve(1, 0);
        dueAmounts("an urgent one is approved", late, 20, 22);
        late.urge(2, 23);
        late.spend(1, 24);
        late.pass(4);
        dueAmounts("an urgent one is too late", late, 20, 22, 24);
    }

    // ---- Terms, spendings: approvals

    private static void approving() {
        String where = "Terms, spendings";
        Checks.test(where, "A person can approve a request once", SpendingEdgesTest::approvesOnce);
        Checks.test(where, "who is the holder of a mandate above it in its chain (at once or over others",
                SpendingEdgesTest::approvesFromAbove);
        Checks.test(where, "whether that one stands or not)", SpendingEdgesTest::approvesByALapsedOne);
        Checks.test(where, "and not the holder of the mandate itself.", SpendingEdgesTest::holderCannotApprove);
        Checks.test(where, "When it has as many approvals as the mandate needed when it was asked for, the request is "
                + "gone, and the spending is made", SpendingEdgesTest::isMadeWithEnough);
        Checks.test(where, "if it is not refused now; otherwise it has failed.", SpendingEdgesTest::failsIfRefused);
    }

    private static void approvesOnce() {
        LapseMandates book = Books.chain(3);
        book.give(2, 0, 100, 100, 3);
        book.spend(3, 10);
        book.spend(2, 20);
        Checks.due("who could", book.request(1, 6), 0b11);
        Checks.due("person 0", book.approve(1, 0), 0);
        Checks.dueThrow(book, "person 0 again", Checks.ILLEGAL_STATE, () -> book.approve(1, 0));
        Checks.due("who did", book.request(1, 5), 0b1);
        Checks.due("who could", book.request(1, 6), 0b10);
        Checks.due("person 1", book.approve(1, 1), 0);
        Checks.dueThrow(book, "person 1 again", Checks.ILLEGAL_STATE, () -> book.approve(1, 1));
        Checks.due("nobody could", book.request(1, 6), 0);
        Checks.due("another request", book.approve(0, 1), 0);
        LapseMandates twice = new LapseMandates();
        twice.give(-1, 5, 9, 9, 0);
        twice.give(0, 5, 9, 9, 0);
        twice.give(1, 6, 9, 9, 2);
        twice.spend(2, 1);
        Checks.due("who holds two above", twice.approve(0, 5), 0);
        Checks.dueThrow(twice, "for the second one", Checks.ILLEGAL_STATE, () -> twice.approve(0, 5));
    }

    private static void approvesFromAbove() {
        LapseMandates book = Books.tree();
        book.need(5, 3);
        book.spend(5, 1);
        Checks.due("who could", book.request(0, 6), 0b10011);
        int[] strangers = {2, 3, 6, 7};
        for (int person : strangers) {
            Checks.dueThrow(book, "person " + person, Checks.ILLEGAL_STATE, () -> book.approve(0, person));
        }
        Checks.due("over two others", book.approve(0, 0), 0);
        Checks.due("over another", book.approve(0, 1), 0);
        Checks.due("at once", book.approve(0, 4), 1);
        book.spend(4, 1);
        Checks.dueThrow(book, "one under it", Checks.ILLEGAL_STATE, () -> book.approve(0, 5));
        book.need(6, 1);
        book.spend(6, 1);
        Checks.due("none is above one of the board", book.request(1, 6), 0);
        LapseMandates ladder = Books.ladder();
        ladder.spend(11, 1);
        Checks.due("over ten others", ladder.approve(0, 7), 1);
    }

    private static void approvesByALapsedOne() {
        LapseMandates book = Books.chain(2);
        book.urge(2, 10);
        book.withdraw(1);
        Checks.due("who could", book.request(0, 6), 0b11);
        Checks.due("the holder of one that stands", book.approve(0, 0), 0);
        Checks.due("the holder of one that lapsed", book.approve(0, 1), 1);
        LapseMandates all = Books.chain(1);
        all.urge(2, 10);
        all.withdraw(0);
        Checks.due("when all have lapsed", all.approve(0, 0), 1);
    }

    private static void holderCannotApprove() {
        LapseMandates book = Books.chain(1);
        book.give(1, 0, 200, 400, 1);
        book.spend(2, 1);
        Checks.dueThrow(book, "its holder", Checks.ILLEGAL_STATE, () -> book.approve(0, 2));
        book.spend(3, 1);
        Checks.due("who could", book.request(1, 6), 0b10);
        Checks.dueThrow(book, "its holder, who holds one above, too", Checks.ILLEGAL_STATE, () -> book.approve(1, 0));
        Checks.due("another one", book.approve(1, 1), 1);
    }

    private static void isMadeWithEnough() {
        for (int needed = 1; needed <= 3; needed++) {
            LapseMandates book = Books.chain(0);
            book.give(2, 3, 200, 400, needed);
            book.spend(3, 9);
            book.need(3, 4 - needed);
            for (int person = 0; person < needed; person++) {
                Checks.due("nothing is spent before", book.count(5), 0);
                Checks.due("it waits", book.count(2), 1);
                Checks.due("approval " + person + " of " + needed, book.approve(0, person),
                        person + 1 == needed ? 1 : 0);
            }
            Checks.due("it is gone", book.count(2), 0);
            Checks.due("it is spent", book.mandate(3, 7), 9);
            Checks.due("it counts above", book.mandate(0, 6), 9);
            Checks.due("one spending", book.count(7), 1);
            Checks.due("none has failed", book.count(9), 0);
        }
    }

    private static void failsIfRefused() {
        LapseMandates book = Books.chain(1);
        book.spend(2, 200);
        book.spend(2, 199);
        book.limit(2, 199, 400);
        Checks.due("above its limit by now", book.approve(0, 0), 2);
        Checks.due("it is gone", book.count(2), 1);
        Checks.due("just at its limit", book.approve(0, 0), 1);
        Checks.due("only one was made", book.count(5), 199);
        Checks.due("one has failed", book.count(9), 1);
        LapseMandates above = Books.chain(0);
        above.need(2, 1);
        above.spend(2, 100);
        above.spend(2, 101);
        above.spend(0, 500);
        above.spend(0, 400);
        Checks.due("above that of the topmost", above.approve(1, 1), 2);
        Checks.due("just at that of the topmost", above.approve(0, 1), 1);
        LapseMandates later = Books.one(100, 100, 0);
        later.give(0, 1, 100, 100, 1);
        later.spend(1, 100);
        later.spend(0, 100);
        Books.passTo(later, 10);
        Checks.due("it counts in the period in which it is made", later.approve(0, 0), 1);
        Checks.due("the sum", later.mandate(0, 6), 100);
    }

    // ---- Terms, spendings: urgent ones

    private static void urgent() {
        String where = "Terms, spendings";
        Checks.test(where, "An urgent spending is made at once, if it is not refused,",
                SpendingEdgesTest::urgentIsMadeAtOnce);
        Checks.test(where, "and its amount is at most the limit for each spending divided by 2, rounded down.",
                SpendingEdgesTest::urgentAtMostHalf);
        Checks.test(where, "If the mandate needs approvals, it is open then: it waits as a request does, and can be "
                + "approved likewise;", SpendingEdgesTest::urgentIsOpen);
        Checks.test(where, "with enough approvals it is gone from there.", SpendingEdgesTest::urgentIsGone);
        Checks.test(where, "If a day passes, and the number of the day then is above the day on which it was made plus "
                + "setting 0, its mandate lapses (if it stands), and it is gone from there.",
                SpendingEdgesTest::urgentIsLate);
        Checks.test(where, "its mandate lapses (if it stands)", SpendingEdgesTest::lateOneOfALapsedMandate);
        Checks.test(where, "(What was spent stays spent.", SpendingEdgesTest::spentStaysSpent);
        Checks.test(where, "A mandate that lapses for another reason does not end an urgent one.)",
                SpendingEdgesTest::lapseDoesNotEndUrgent);
    }

    private static void urgentIsMadeAtOnce() {
        LapseMandates book = Books.chain(2);
        Checks.due("open", book.urge(2, 100), 1);
        Checks.due("it counts for its mandate", book.mandate(2, 6), 100);
        Checks.due("it counts for the topmost", book.mandate(0, 6), 100);
        Checks.due("a spending", book.count(7), 1);
        Checks.due("an urgent one", book.count(8), 1);
        book.limit(2, 200, 150);
        Checks.dueThrow(book, "above the period", Checks.ILLEGAL_STATE, () -> book.urge(2, 51));
        Checks.due("up to the period", book.urge(2, 50), 1);
        book.withdraw(2);
        Checks.dueThrow(book, "it does not stand", Checks.ILLEGAL_STATE, () -> book.urge(2, 1));
    }

    private static void urgentAtMostHalf() {
        int[][] halves = {{1, 0}, {2, 1}, {3, 1}, {4, 2}, {201, 100}, {9998, 4999}, {9999, 4999}};
        for (int[] half : halves) {
            LapseMandates book = Books.one(half[0], 9999, 0);
            Checks.dueThrow(book, "more than half of " + half[0], Checks.ILLEGAL_STATE,
                    () -> book.urge(0, half[1] + 1));
            if (half[1] > 0) {
                Checks.due("half of " + half[0], book.urge(0, half[1]), 0);
            }
        }
    }

    private static void urgentIsOpen() {
        LapseMandates book = Books.chain(2);
        Checks.due("it is open", book.urge(2, 10), 1);
        Checks.due("it waits", book.count(2), 1);
        Checks.due("it is urgent", book.request(0, 3), 1);
        Checks.dueThrow(book, "its holder", Checks.ILLEGAL_STATE, () -> book.approve(0, 2));
        Checks.dueThrow(book, "a stranger", Checks.ILLEGAL_STATE, () -> book.approve(0, 3));
        Checks.due("the first", book.approve(0, 0), 0);
        Checks.dueThrow(book, "the first again", Checks.ILLEGAL_STATE, () -> book.approve(0, 0));
        book.need(2, 0);
        Checks.due("it needs none", book.urge(2, 10), 0);
        Checks.due("so it does not wait", book.count(2), 1);
    }

    private static void urgentIsGone() {
        LapseMandates book = Books.chain(2);
        book.urge(2, 100);
        book.spend(2, 5);
        book.limit(2, 1, 1);
        Checks.due("the first", book.approve(0, 0), 0);
        Checks.due("the second, above its limits by now", book.approve(0, 1), 1);
        Checks.due("the other one waits", book.count(2), 1);
        Checks.due("the other one waits", book.request(0, 1), 5);
        Checks.due("it is not spent again", book.count(5), 100);
        Checks.due("nor counted again", book.count(7), 1);
        Checks.due("none has failed", book.count(9), 0);
        Checks.due("it is never too late now", book.pass(60), 0);
        Checks.due("the mandate stands", book.mandate(2, 5), 1);
    }

    private static void urgentIsLate() {
        for (int grace = 0; grace <= 30; grace++) {
            LapseMandates book = Books.chain(1);
            book.set(0, grace);
            book.pass(7);
            book.urge(2, 10);
            if (grace > 0) {
                Checks.due("in time, with " + grace, book.pass(grace), 0);
                Checks.due("it is open", book.count(2), 1);
            }
            Checks.due("too late, with " + grace, book.pass(1), 1);
            Checks.due("it is gone", book.count(2), 0);
            Checks.due("the day on which it lapsed", book.mandate(2, 11), 7 + grace + 1);
            Checks.due("the one above stands", book.mandate(1, 5), 1);
        }
        LapseMandates changed = Books.chain(1);
        changed.urge(2, 10);
        changed.pass(3);
        changed.set(0, 5);
        Checks.due("as setting 0 is now, in time", changed.pass(2), 0);
        changed.set(0, 0);
        Checks.due("it stands until a day passes", changed.mandate(2, 5), 1);
        Checks.due("too late", changed.pass(1), 1);
        LapseMandates among = Books.chain(1);
        Checks.write(among, "s2:1;s2:2;u2:3;s0:4;s2:5;s1:6");
        among.run();
        Checks.due("too late, among others", among.pass(4), 1);
        dueAmounts("it and those of its mandate are gone", among, 4, 6);
    }

    private static void lateOneOfALapsedMandate() {
        LapseMandates book = Books.chain(1);
        book.urge(2, 10);
        book.pass(1);
        book.withdraw(2);
        book.give(1, 2, 200, 400, 1);
        Checks.due("in time", book.pass(2), 0);
        Checks.due("it is open", book.count(2), 1);
        Checks.due("nothing lapses", book.pass(1), 0);
        Checks.due("it is gone", book.count(2), 0);
        Checks.due("nothing lapsed by it", book.count(10), 0);
        Checks.due("it lapsed on the day before", book.mandate(2, 11), 1);
        Checks.due("the others stand", book.count(1), 3);
    }

    private static void spentStaysSpent() {
        LapseMandates book = Books.chain(1);
        book.urge(2, 100);
        book.pass(4);
        Checks.due("its mandate lapsed", book.mandate(2, 5), 0);
        Checks.due("spent so far", book.count(5), 100);
        Checks.due("spent in the period", book.count(6), 100);
        Checks.due("spendings", book.count(7), 1);
        Checks.due("its sum", book.mandate(2, 6), 100);
        Checks.due("the sum of the topmost", book.mandate(0, 6), 100);
        Checks.due("by its holder", book.person(2, 1), 100);
        Checks.due("no request was dropped", book.count(9), 0);
    }

    private static void lapseDoesNotEndUrgent() {
        LapseMandates book = Books.chain(1);
        book.urge(2, 10);
        book.spend(2, 20);
        book.urge(1, 30);
        book.withdraw(1);
        Checks.due("two are open", book.count(2), 2);
        Checks.due("the first", book.request(0, 1), 10);
        Checks.due("the second", book.request(1, 1), 30);
        Checks.due("one was dropped", book.count(9), 1);
        Checks.due("it can be approved", book.approve(1, 0), 1);
        LapseMandates late = Books.chain(1);
        late.urge(0, 10);
        late.pass(1);
        late.urge(2, 10);
        Checks.due("all lapse by the first", late.pass(3), 3);
        Checks.due("the second is open", late.count(2), 1);
        Checks.due("nothing lapses by it", late.pass(1), 0);
        Checks.due("it is gone", late.count(2), 0);
    }

    // ---- Terms, spendings: days that pass

    private static void passing() {
        String where = "Terms, spendings";
        Checks.test(where, "When a day passes, its number becomes 1 more;", SpendingEdgesTest::dayBecomesOneMore);
        Checks.test(where, "then urgent ones that are too late are looked for, by ascending numbers of requests,",
                SpendingEdgesTest::lateOnesInOrder);
        Checks.test(where, "again and again, until there is none.", SpendingEdgesTest::allLateOnes);
    }

    private static void dayBecomesOneMore() {
        LapseMandates book = Books.chain(1);
        for (int day = 1; day <= 12; day++) {
            book.pass(1);
            Checks.due("the day", book.count(3), day);
        }
        book.urge(2, 10);
        book.pass(60);
        Checks.due("the day", book.count(3), 72);
        Checks.due("each day is looked at", book.mandate(2, 11), 16);
    }

    /** The upper one's lapses first, and with it what is under it, which counts once. */
    private static void lateOnesInOrder() {
        LapseMandates book = Books.chain(1);
        book.spend(0, 1);
        book.urge(1, 10);
        book.spend(2, 2);
        book.urge(2, 10);
        book.spend(1, 3);
        book.urge(0, 10);
        Checks.due("three lapse", book.pass(4), 3);
        Checks.due("three lapsed by late ones", book.count(10), 3);
        Checks.due("three requests were dropped", book.count(9), 3);
        Checks.due("nothing waits", book.count(2), 0);
        LapseMandates other = Books.chain(1);
        other.urge(2, 10);
        other.pass(1);
        other.urge(1, 10);
        Checks.due("the first alone", other.pass(3), 1);
        Checks.due("the second, a day on", other.pass(1), 1);
        Checks.due("the day of the first", other.mandate(2, 11), 4);
        Checks.due("the day of the second", other.mandate(1, 11), 5);
    }

    private static void allLateOnes() {
        LapseMandates book = new LapseMandates();
        for (int number = 0; number < 6; number++) {
            book.give(-1, number, 10, 10, 1);
            book.urge(number, 5);
        }
        Checks.due("none before", book.pass(3), 0);
        Checks.due("six on one day", book.pass(1), 6);
        Checks.due("nothing waits", book.count(2), 0);
        Checks.due("six lapsed by late ones", book.count(10), 6);
        LapseMandates same = Books.chain(1);
        for (int turn = 0; turn < 6; turn++) {
            same.urge(2, 1);
        }
        Checks.due("one mandate by six", same.pass(4), 1);
        Checks.due("all six are gone", same.count(2), 0);
        Checks.due("it lapsed once", same.count(10), 1);
    }

    // ---- Terms: settings

    private static void settings() {
        String where = "Terms, settings";
        Checks.test(where, "0: the days within which an urgent spending is approved, 0 to 30, at first 3;",
                SpendingEdgesTest::graceSetting);
        Checks.test(where, "1: the most mandates in a chain, 1 to 12, at first 4.", SpendingEdgesTest::chainSetting);
    }

    private static void graceSetting() {
        LapseMandates book = Books.chain(1);
        Checks.due("at first", book.setting(0), 3);
        book.urge(2, 1);
        Checks.due("3 days are in time", book.pass(3), 0);
        Checks.due("the 4th is not", book.pass(1), 1);
        Checks.dueThrows(book, "set(0)", Checks.ILLEGAL_ARGUMENT, value -> book.set(0, value),
                Checks.MIN, -1, 31, Checks.MAX);
        book.set(0, 0);
        Checks.due("the least", book.setting(0), 0);
        book.set(0, 30);
        Checks.due("the greatest", book.setting(0), 30);
        Checks.due("the other one is as it was", book.setting(1), 4);
    }

    private static void chainSetting() {
        LapseMandates book = Books.chain(0);
        Checks.due("at first", book.setting(1), 4);
        Checks.due("the fourth of a chain", book.give(2, 0, 1, 1, 0), 3);
        Checks.dueThrow(book, "the fifth of a chain", Checks.ILLEGAL_STATE, () -> book.give(3, 0, 1, 1, 0));
        Checks.dueThrows(book, "set(1)", Checks.ILLEGAL_ARGUMENT, value -> book.set(1, value),
                Checks.MIN, -1, 0, 13, Checks.MAX);
        book.set(1, 1);
        Checks.due("the least", book.setting(1), 1);
        book.set(1, 12);
        Checks.due("the greatest", book.setting(1), 12);
        Checks.due("the other one is as it was", book.setting(0), 3);
    }
}
