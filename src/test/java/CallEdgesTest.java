/**
 * What the document says of spend, urge, approve, takeBack, pass and set (promises 6 to 11),
 * sentence by sentence: each that names an edge has a test of its own.
 */
public final class CallEdgesTest {
    private CallEdgesTest() {
    }

    public static void main(String[] args) {
        spend();
        urge();
        approve();
        takeBack();
        pass();
        set();
        Checks.close();
    }

    /** It is undone: all is as it was, and one saved state less. */
    private static void dueUndone(LapseMandates book, Checks.Call call, long answer) {
        int saved = book.count(11);
        long before = book.digest();
        Checks.due("answer", call.answer(), answer);
        Checks.due("a saved state more", book.count(11), saved + 1);
        Checks.due("undo()", book.undo(), saved);
        Checks.due("as before", book.digest(), before);
    }

    // ---- Promise 6

    private static void spend() {
        String where = "Promise 6";
        Checks.test(where, "Asks for a spending. Undoable.", CallEdgesTest::spendIsUndone);
        Checks.test(where, "`amount`: 1 to 9999", CallEdgesTest::spendAmounts);
        Checks.test(where, "Returns 0 if it is made, 1 if it waits.", CallEdgesTest::spendAnswers);
        Checks.test(where, "Throws `IndexOutOfBoundsException` if there is no such mandate",
                CallEdgesTest::spendNoMandate);
        Checks.test(where, "Throws `IllegalArgumentException` if amount is out of range",
                CallEdgesTest::spendOutOfRange);
        Checks.test(where, "Throws `IllegalStateException` if it is refused", CallEdgesTest::spendRefused);
        Checks.test(where, "or it needs approvals and 6 requests wait", CallEdgesTest::spendWhenSixWait);
    }

    private static void spendIsUndone() {
        LapseMandates made = Books.chain(0);
        dueUndone(made, () -> made.spend(2, 200), 0);
        LapseMandates waits = Books.chain(1);
        dueUndone(waits, () -> waits.spend(2, 200), 1);
    }

    private static void spendAmounts() {
        LapseMandates book = Books.twelve();
        Checks.dueThrows(book, "spend", Checks.ILLEGAL_ARGUMENT, amount -> book.spend(0, amount),
                Checks.MIN, -1, 0, 10000, Checks.MAX);
        Checks.due("spend(0, 1)", book.spend(0, 1), 0);
        Checks.due("spend(1, 9999)", book.spend(1, 9999), 0);
        Checks.due("spent", book.count(5), 10000);
        Checks.due("by 1", book.mandate(1, 7), 9999);
    }

    private static void spendAnswers() {
        for (int needed = 0; needed <= 3; needed++) {
            LapseMandates book = Books.one(10, 20, needed);
            Checks.due("with " + needed, book.spend(0, 10), needed == 0 ? 0 : 1);
            Checks.due("spent", book.count(5), needed == 0 ? 10 : 0);
            Checks.due("what waits", book.count(2), needed == 0 ? 0 : 1);
        }
    }

    private static void spendNoMandate() {
        LapseMandates empty = new LapseMandates();
        Checks.dueThrows(empty, "spend by", Checks.OUT_OF_BOUNDS, mandate -> empty.spend(mandate, 1), -1, 0);
        LapseMandates book = Books.chain(0);
        Checks.dueThrows(book, "spend by", Checks.OUT_OF_BOUNDS, mandate -> book.spend(mandate, 1),
                Checks.MIN, -1, 3, 11, 12, Checks.MAX);
        Checks.due("by the last one", book.spend(2, 1), 0);
    }

    private static void spendOutOfRange() {
        LapseMandates book = Books.chain(0);
        book.withdraw(2);
        Checks.dueThrows(book, "spend by one that lapsed", Checks.ILLEGAL_ARGUMENT, amount -> book.spend(2, amount),
                -1, 0, 10000);
        Checks.dueThrow(book, "spend(2, 9999)", Checks.ILLEGAL_STATE, () -> book.spend(2, 9999));
    }

    private static void spendRefused() {
        LapseMandates book = Books.chain(1);
        Checks.dueThrow(book, "above each", Checks.ILLEGAL_STATE, () -> book.spend(2, 201));
        Checks.due("as much as each", book.spend(2, 200), 1);
        book.need(2, 0);
        book.spend(2, 200);
        book.spend(2, 199);
        Checks.dueThrow(book, "above the period", Checks.ILLEGAL_STATE, () -> book.spend(2, 2));
        book.need(2, 1);
        Checks.dueThrow(book, "above the period, if it would wait, too", Checks.ILLEGAL_STATE, () -> book.spend(2, 2));
        Checks.due("up to the period", book.spend(2, 1), 1);
        book.withdraw(1);
        Checks.dueThrow(book, "it does not stand", Checks.ILLEGAL_STATE, () -> book.spend(2, 1));
    }

    private static void spendWhenSixWait() {
        LapseMandates book = Books.chain(1);
        for (int turn = 0; turn < 5; turn++) {
            book.spend(2, 1);
        }
        Checks.due("the 6th", book.spend(2, 1), 1);
        Checks.dueThrow(book, "the 7th", Checks.ILLEGAL_STATE, () -> book.spend(2, 1));
        Checks.dueThrow(book, "the 7th, of another", Checks.ILLEGAL_STATE, () -> book.spend(0, 1));
        book.need(1, 0);
        Checks.due("of one that needs none", book.spend(1, 1), 0);
        book.takeBack(0);
        Checks.due("the 6th again", book.spend(0, 1), 1);
    }

    // ---- Promise 7

    private static void urge() {
        String where = "Promise 7";
        Checks.test(where, "Makes an urgent spending. Undoable.", CallEdgesTest::urgeIsUndone);
        Checks.test(where, "`amount`: 1 to 9999", CallEdgesTest::urgeAmounts);
        Checks.test(where, "Returns 0 if it is done with, 1 if it is open.", CallEdgesTest::urgeAnswers);
        Checks.test(where, "Throws `IndexOutOfBoundsException` if there is no such mandate",
                CallEdgesTest::urgeNoMandate);
        Checks.test(where, "Throws `IllegalArgumentException` if amount is out of range",
                CallEdgesTest::urgeOutOfRange);
        Checks.test(where, "Throws `IllegalStateException` if it is refused", CallEdgesTest::urgeRefused);
        Checks.test(where, "its amount is too great for an urgent one", CallEdgesTest::urgeTooGreat);
        Checks.test(where, "or it needs approvals and 6 requests wait", CallEdgesTest::urgeWhenSixWait);
    }

    private static void urgeIsUndone() {
        LapseMandates made = Books.chain(0);
        dueUndone(made, () -> made.urge(2, 100), 0);
        LapseMandates open = Books.chain(1);
        dueUndone(open, () -> open.urge(2, 100), 1);
    }

    private static void urgeAmounts() {
        LapseMandates book = Books.twelve();
        Checks.dueThrows(book, "urge", Checks.ILLEGAL_ARGUMENT, amount -> book.urge(0, amount),
                Checks.MIN, -1, 0, 10000, Checks.MAX);
        Checks.due("urge(0, 1)", book.urge(0, 1), 0);
        Checks.due("urge(1, 4999)", book.urge(1, 4999), 0);
        Checks.dueThrow(book, "urge(1, 9999), in range, but too great", Checks.ILLEGAL_STATE,
                () -> book.urge(1, 9999));
        Checks.due("spent", book.count(5), 5000);
    }

    private static void urgeAnswers() {
        for (int needed = 0; needed <= 3; needed++) {
            LapseMandates book = Books.one(10, 20, needed);
            Checks.due("with " + needed, book.urge(0, 5), needed == 0 ? 0 : 1);
            Checks.due("spent", book.count(5), 5);
            Checks.due("urgent ones", book.count(8), 1);
            Checks.due("what is open", book.count(2), needed == 0 ? 0 : 1);
        }
    }

    private static void urgeNoMandate() {
        LapseMandates empty = new LapseMandates();
        Checks.dueThrows(empty, "urge by", Checks.OUT_OF_BOUNDS, mandate -> empty.urge(mandate, 1), -1, 0);
        LapseMandates book = Books.chain(0);
        Checks.dueThrows(book, "urge by", Checks.OUT_OF_BOUNDS, mandate -> book.urge(mandate, 1),
                Checks.MIN, -1, 3, 11, 12, Checks.MAX);
        Checks.due("by the last one", book.urge(2, 1), 0);
    }

    private static void urgeOutOfRange() {
        LapseMandates book = Books.chain(0);
        book.withdraw(2);
        Checks.dueThrows(book, "urge by one that lapsed", Checks.ILLEGAL_ARGUMENT, amount -> book.urge(2, amount),
                -1, 0, 10000);
        Checks.dueThrow(book, "urge(2, 9999)", Checks.ILLEGAL_STATE, () -> book.urge(2, 9999));
    }

    private static void urgeRefused() {
        LapseMandates book = Books.chain(1);
        book.limit(2, 200, 150);
        book.urge(2, 100);
        Checks.dueThrow(book, "above the period", Checks.ILLEGAL_STATE, () -> book.urge(2, 51));
        Checks.due("up to the period", book.urge(2, 50), 1);
        Checks.dueThrow(book, "above each", Checks.ILLEGAL_STATE, () -> book.urge(1, 301));
        book.withdraw(1);
        Checks.dueThrow(book, "it does not stand", Checks.ILLEGAL_STATE, () -> book.urge(2, 1));
    }

    private static void urgeTooGreat() {
        LapseMandates book = Books.chain(0);
        Checks.dueThrow(book, "more than half of 200", Checks.ILLEGAL_STATE, () -> book.urge(2, 101));
        Checks.due("half of 200", book.urge(2, 100), 0);
        book.limit(2, 199, 400);
        Checks.dueThrow(book, "more than half of 199", Checks.ILLEGAL_STATE, () -> book.urge(2, 100));
        Checks.due("half of 199", book.urge(2, 99), 0);
        book.limit(2, 1, 400);
        Checks.dueThrow(book, "half of 1 is 0", Checks.ILLEGAL_STATE, () -> book.urge(2, 1));
    }

    private static void urgeWhenSixWait() {
        LapseMandates book = Books.chain(1);
        for (int turn = 0; turn < 5; turn++) {
            book.urge(2, 1);
        }
        Checks.due("the 6th", book.urge(2, 1), 1);
        Checks.dueThrow(book, "the 7th", Checks.ILLEGAL_STATE, () -> book.urge(2, 1));
        Checks.dueThrow(book, "the 7th, of another", Checks.ILLEGAL_STATE, () -> book.urge(0, 1));
        book.need(1, 0);
        Checks.due("of one that needs none", book.urge(1, 1), 0);
        Checks.due("spent", book.count(5), 7);
        book.approve(0, 0);
        Checks.due("the 6th again", book.urge(0, 1), 1);
    }

    // ---- Promise 8

    private static void approve() {
        String where = "Promise 8";
        Checks.test(where, "Approves a request (or an urgent spending that is open). Undoable.",
                CallEdgesTest::approveIsUndone);
        Checks.test(where, "`person`: 0 to 7", CallEdgesTest::approvePersons);
        Checks.test(where, "Returns 0 if it waits for more, 1 if it is made (or, if it was urgent, done with), 2 if it "
                + "has failed.", CallEdgesTest::approveAnswers);
        Checks.test(where, "Throws `IndexOutOfBoundsException` if there is no such request or person",
                CallEdgesTest::approveNoRequest);
        Checks.test(where, "Throws `IllegalStateException` if the person cannot approve it",
                CallEdgesTest::approveCannot);
        Checks.test(where, "or did already", CallEdgesTest::approveDidAlready);
    }

    private static void approveIsUndone() {
        LapseMandates made = Books.chain(1);
        made.spend(2, 7);
        dueUndone(made, () -> made.approve(0, 1), 1);
        LapseMandates more = Books.chain(2);
        more.urge(2, 7);
        dueUndone(more, () -> more.approve(0, 1), 0);
        LapseMandates failed = Books.chain(1);
        failed.spend(2, 7);
        failed.limit(2, 6, 400);
        dueUndone(failed, () -> failed.approve(0, 1), 2);
    }

    private static void approvePersons() {
        LapseMandates book = new LapseMandates();
        book.give(-1, 7, 9, 9, 0);
        book.give(0, 0, 9, 9, 0);
        book.give(1, 3, 9, 9, 3);
        book.spend(2, 1);
        Checks.dueThrows(book, "approve by", Checks.OUT_OF_BOUNDS, person -> book.approve(0, person),
                Checks.MIN, -1, 8, 31, 32, 39, Checks.MAX);
        Checks.due("by 7", book.approve(0, 7), 0);
        Checks.due("by 0", book.approve(0, 0), 0);
        Checks.due("who did", book.request(0, 5), 0b10000001);
    }

    private static void approveAnswers() {
        LapseMandates book = Books.chain(2);
        book.spend(2, 10);
        book.urge(2, 11);
        book.spend(2, 12);
        book.limit(2, 11, 400);
        for (int request = 0; request < 3; request++) {
            Checks.due("waits for more", book.approve(request, 0), 0);
        }
        Checks.due("has failed", book.approve(2, 1), 2);
        Checks.due("done with", book.approve(1, 1), 1);
        Checks.due("is made", book.approve(0, 1), 1);
        Checks.due("spent", book.count(5), 21);
        Checks.due("approvals of 0", book.person(0, 2), 3);
        Checks.due("approvals of 1", book.person(1, 2), 3);
    }

    private static void approveNoRequest() {
        LapseMandates empty = Books.chain(1);
        Checks.dueThrows(empty, "approve", Checks.OUT_OF_BOUNDS, request -> empty.approve(request, 0), -1, 0);
        LapseMandates book = Books.chain(1);
        book.spend(2, 1);
        book.spend(2, 1);
        Checks.dueThrows(book, "approve", Checks.OUT_OF_BOUNDS, request -> book.approve(request, 0),
                Checks.MIN, -1, 2, 5, 6, Checks.MAX);
        Checks.dueThrow(book, "approve by 8", Checks.OUT_OF_BOUNDS, () -> book.approve(1, 8));
        Checks.dueThrow(book, "neither", Checks.OUT_OF_BOUNDS, () -> book.approve(2, 8));
        Checks.due("the last one", book.approve(1, 0), 1);
        Checks.dueThrow(book, "the last one, gone", Checks.OUT_OF_BOUNDS, () -> book.approve(1, 0));
    }

    private static void approveCannot() {
        LapseMandates book = Books.chain(1);
        book.spend(1, 1);
        Checks.dueThrow(book, "its holder", Checks.ILLEGAL_STATE, () -> book.approve(0, 1));
        Checks.dueThrow(book, "the holder of one under it", Checks.ILLEGAL_STATE, () -> book.approve(0, 2));
        Checks.dueThrow(book, "who holds nothing", Checks.ILLEGAL_STATE, () -> book.approve(0, 7));
        book.urge(1, 1);
        Checks.dueThrow(book, "its holder, urgent", Checks.ILLEGAL_STATE, () -> book.approve(1, 1));
        Checks.due("the holder of the one above", book.approve(0, 0), 1);
    }

    private static void approveDidAlready() {
        LapseMandates book = Books.chain(2);
        book.spend(2, 1);
        book.urge(2, 1);
        book.approve(0, 1);
        book.approve(1, 0);
        Checks.dueThrow(book, "1 did", Checks.ILLEGAL_STATE, () -> book.approve(0, 1));
        Checks.dueThrow(book, "0 did, urgent", Checks.ILLEGAL_STATE, () -> book.approve(1, 0));
        Checks.due("approvals of 0", book.person(0, 2), 1);
        Checks.due("approvals of 1", book.person(1, 2), 1);
        book.undo();
        Checks.due("when it was undone", book.approve(1, 0), 0);
    }

    // ---- Promise 9

    private static void takeBack() {
        String where = "Promise 9";
        Checks.test(where, "Takes a request back that is not urgent. Undoable.", CallEdgesTest::takeBackIsUndone);
        Checks.test(where, "Returns its amount.", CallEdgesTest::takeBackAmounts);
        Checks.test(where, "Throws `IndexOutOfBoundsException` if there is no such request",
                CallEdgesTest::takeBackNoRequest);
        Checks.test(where, "Throws `IllegalStateException` if it is urgent", CallEdgesTest::takeBackUrgent);
    }

    private static void takeBackIsUndone() {
        LapseMandates book = Books.chain(1);
        Checks.write(book, "u2:4;s2:5;s2:6");
        book.run();
        dueUndone(book, () -> book.takeBack(1), 5);
        Checks.due("it waits again", book.request(1, 1), 5);
        Checks.due("the one behind it, too", book.request(2, 1), 6);
    }

    private static void takeBackAmounts() {
        LapseMandates book = Books.one(9999, 9999, 1);
        book.spend(0, 9999);
        book.spend(0, 1);
        book.spend(0, 77);
        Checks.due("the last", book.takeBack(2), 77);
        Checks.due("the greatest", book.takeBack(0), 9999);
        Checks.due("the least", book.takeBack(0), 1);
        Checks.due("nothing waits", book.count(2), 0);
        Checks.due("none was dropped, none has failed", book.count(9), 0);
        Checks.due("nothing is spent", book.count(5), 0);
    }

    private static void takeBackNoRequest() {
        LapseMandates empty = Books.chain(1);
        Checks.dueThrows(empty, "takeBack", Checks.OUT_OF_BOUNDS, empty::takeBack, -1, 0);
        LapseMandates book = Books.chain(1);
        book.spend(2, 3);
        book.spend(2, 4);
        Checks.dueThrows(book, "takeBack", Checks.OUT_OF_BOUNDS, book::takeBack, Checks.MIN, -1, 2, 6, Checks.MAX);
        Checks.due("the last one", book.takeBack(1), 4);
        Checks.dueThrow(book, "the last one, gone", Checks.OUT_OF_BOUNDS, () -> book.takeBack(1));
    }

    private static void takeBackUrgent() {
        LapseMandates book = Books.chain(2);
        book.urge(2, 3);
        book.spend(2, 4);
        book.urge(2, 5);
        book.approve(2, 0);
        Checks.dueThrows(book, "takeBack", Checks.ILLEGAL_STATE, book::takeBack, 0, 2);
        Checks.due("the one between", book.takeBack(1), 4);
        book.withdraw(2);
        Checks.dueThrows(book, "takeBack, when it lapsed", Checks.ILLEGAL_STATE, book::takeBack, 0, 1);
    }

    // ---- Promise 10

    private static void pass() {
        String where = "Promise 10";
        Checks.test(where, "Lets days pass. Undoable, as one call.", CallEdgesTest::passIsUndone);
        Checks.test(where, "`days`: 1 to 60", CallEdgesTest::passDays);
        Checks.test(where, "Returns how many mandates lapse in them.", CallEdgesTest::passAnswers);
        Checks.test(where, "Throws `IllegalArgumentException` if days is out of range",
                CallEdgesTest::passOutOfRange);
        Checks.test(where, "Throws `IllegalStateException` if the number of the day would be above 5000",
                CallEdgesTest::passAboveTheEnd);
    }

    private static void passIsUndone() {
        LapseMandates book = Books.chain(1);
        Checks.write(book, "u2:9;s2:8;s1:7");
        book.run();
        dueUndone(book, () -> book.pass(60), 1);
        Checks.due("the day", book.count(3), 0);
        Checks.due("it is open", book.request(0, 1), 9);
        Checks.due("the period's sum", book.mandate(0, 6), 9);
    }

    private static void passDays() {
        LapseMandates book = Books.chain(0);
        Checks.dueThrows(book, "pass", Checks.ILLEGAL_ARGUMENT, book::pass, Checks.MIN, -60, -1, 0, 61, Checks.MAX);
        book.pass(1);
        Checks.due("the least", book.count(3), 1);
        book.pass(60);
        Checks.due("the greatest", book.count(3), 61);
    }

    private static void passAnswers() {
        LapseMandates book = Books.chain(1);
        Checks.due("none", book.pass(60), 0);
        book.urge(2, 1);
        book.pass(2);
        book.urge(0, 1);
        Checks.due("none so far", book.pass(1), 0);
        Checks.due("one and two in seven days", book.pass(7), 3);
        Checks.due("none is left", book.pass(60), 0);
        LapseMandates withdrawn = Books.chain(1);
        withdrawn.urge(0, 1);
        withdrawn.withdraw(1);
        Checks.due("not those that lapsed before", withdrawn.pass(60), 1);
    }

    private static void passOutOfRange() {
        LapseMandates book = new LapseMandates();
        Books.passTo(book, 5000);
        Checks.dueThrows(book, "pass on day 5000", Checks.ILLEGAL_ARGUMENT, book::pass,
                Checks.MIN, -1, 0, 61, Checks.MAX);
    }

    private static void passAboveTheEnd() {
        LapseMandates book = Books.chain(1);
        Books.passTo(book, 4940);
        Checks.due("60 days to day 5000", book.pass(60), 0);
        book.undo();
        book.pass(1);
        Checks.dueThrow(book, "60 days to day 5001", Checks.ILLEGAL_STATE, () -> book.pass(60));
        book.urge(2, 1);
        Checks.due("59 days to day 5000", book.pass(59), 1);
        Checks.due("the day", book.count(3), 5000);
        Checks.dueThrow(book, "1 day to day 5001", Checks.ILLEGAL_STATE, () -> book.pass(1));
        Checks.due("spend on day 5000", book.spend(0, 1), 1);
    }

    // ---- Promise 11

    private static void set() {
        String where = "Promise 11";
        Checks.test(where, "Changes a setting. Undoable.", CallEdgesTest::setIsUndone);
        Checks.test(where, "`setting`: 0 or 1", CallEdgesTest::setSettings);
        Checks.test(where, "Returns the previous value.", CallEdgesTest::setAnswers);
        Checks.test(where, "Throws `IndexOutOfBoundsException` if there is no such setting",
                CallEdgesTest::setNoSetting);
        Checks.test(where, "Throws `IllegalArgumentException` if value is out of range",
                CallEdgesTest::setOutOfRange);
    }

    private static void setIsUndone() {
        LapseMandates book = Books.chain(1);
        book.urge(2, 1);
        dueUndone(book, () -> book.set(0, 9), 3);
        dueUndone(book, () -> book.set(1, 9), 4);
        Checks.due("setting 0 works as before", book.pass(4), 1);
    }

    private static void setSettings() {
        LapseMandates book = new LapseMandates();
        book.set(0, 7);
        Checks.due("0", book.setting(0), 7);
        Checks.due("1 is as it was", book.setting(1), 4);
        book.set(1, 8);
        Checks.due("0 is as it was", book.setting(0), 7);
        Checks.due("1", book.setting(1), 8);
    }

    private static void setAnswers() {
        LapseMandates book = new LapseMandates();
        Checks.due("setting 0, at first", book.set(0, 30), 3);
        Checks.due("setting 0", book.set(0, 0), 30);
        Checks.due("setting 0, the same", book.set(0, 0), 0);
        Checks.due("setting 1, at first", book.set(1, 12), 4);
        Checks.due("setting 1", book.set(1, 1), 12);
        Checks.due("setting 1, the same", book.set(1, 1), 1);
    }

    private static void setNoSetting() {
        LapseMandates book = new LapseMandates();
        Checks.dueThrows(book, "set", Checks.OUT_OF_BOUNDS, setting -> book.set(setting, 3),
                Checks.MIN, -1, 2, Checks.MAX);
        Checks.dueThrows(book, "set, with a wrong value", Checks.OUT_OF_BOUNDS, setting -> book.set(setting, -1),
                -1, 2);
    }

    private static void setOutOfRange() {
        LapseMandates book = new LapseMandates();
        Checks.dueThrows(book, "set(0)", Checks.ILLEGAL_ARGUMENT, value -> book.set(0, value),
                Checks.MIN, -1, 31, Checks.MAX);
        Checks.dueThrows(book, "set(1)", Checks.ILLEGAL_ARGUMENT, value -> book.set(1, value),
                Checks.MIN, -1, 0, 13, Checks.MAX);
        Checks.due("13, within setting 0", book.set(0, 13), 3);
        Checks.due("0, within setting 0", book.set(0, 0), 13);
    }
}
