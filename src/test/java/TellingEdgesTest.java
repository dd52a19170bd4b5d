/**
 * What the document says of mandate, request, person, count and setting (promises 17 to 21),
 * sentence by sentence: each that names an edge has a test of its own.
 */
public final class TellingEdgesTest {
    private TellingEdgesTest() {
    }

    public static void main(String[] args) {
        mandate();
        request();
        person();
        count();
        setting();
        Checks.close();
    }

    // ---- Promise 17

    private static void mandate() {
        String where = "Promise 17";
        Checks.test(where, "0: its upper one, NONE if it is of the board;", TellingEdgesTest::upperOne);
        Checks.test(where, "1: its holder;", TellingEdgesTest::holder);
        Checks.test(where, "2: its limit for each spending;", TellingEdgesTest::limitForEach);
        Checks.test(where, "3: its limit for a period;", TellingEdgesTest::limitForAPeriod);
        Checks.test(where, "4: the approvals that it needs;", TellingEdgesTest::approvalsNeeded);
        Checks.test(where, "5: 1 if it stands, otherwise 0;", TellingEdgesTest::whetherItStands);
        Checks.test(where, "6: its sum;", TellingEdgesTest::itsSum);
        Checks.test(where, "7: what was spent by it alone so far;", TellingEdgesTest::spentByItAlone);
        Checks.test(where, "8: how many mandates its chain has;", TellingEdgesTest::lengthOfItsChain);
        Checks.test(where, "9: how many mandates that stand lie under it, at once or over others;",
                TellingEdgesTest::howManyUnderIt);
        Checks.test(where, "10: requests by it that wait (urgent ones, too);", TellingEdgesTest::requestsByIt);
        Checks.test(where, "11: the day on which it lapsed, NONE if it stands", TellingEdgesTest::dayOfItsLapse);
        Checks.test(where, "Throws `IndexOutOfBoundsException` if there is no such mandate",
                TellingEdgesTest::mandateNoMandate);
        Checks.test(where, "Throws `IllegalArgumentException` if what is not 0 to 11",
                TellingEdgesTest::mandateNoProperty);
    }

    private static void upperOne() {
        LapseMandates tree = Books.tree();
        Checks.dueEach("the upper one of", number -> tree.mandate(number, 0), -1, 0, 1, 0, 1, 4, LapseMandates.NONE);
        tree.withdraw(1);
        Checks.dueEach("when some lapsed, that of", number -> tree.mandate(number, 0), -1, 0, 1, 0, 1, 4, -1);
        LapseMandates ladder = Books.ladder();
        Checks.due("of the twelfth", ladder.mandate(11, 0), 10);
    }

    private static void holder() {
        LapseMandates book = Books.twelve();
        Checks.dueEach("the holder of", number -> book.mandate(number, 1), 0, 1, 2, 3, 4, 5, 6, 7, 0, 1, 2, 3);
        book.withdraw(7);
        Checks.due("who held one that lapsed", book.mandate(7, 1), 7);
    }

    private static void limitForEach() {
        LapseMandates book = new LapseMandates();
        book.give(-1, 0, 1, 9999, 0);
        book.give(-1, 0, 9999, 1, 0);
        Checks.dueEach("the limit for each of", number -> book.mandate(number, 2), 1, 9999);
        book.limit(0, 2, 9999);
        Checks.dueEach("changed, that of", number -> book.mandate(number, 2), 2, 9999);
        book.withdraw(0);
        Checks.due("of one that lapsed", book.mandate(0, 2), 2);
    }

    private static void limitForAPeriod() {
        LapseMandates book = new LapseMandates();
        book.give(-1, 0, 1, 9999, 0);
        book.give(-1, 0, 9999, 1, 0);
        Checks.dueEach("the limit for a period of", number -> book.mandate(number, 3), 9999, 1);
        book.limit(1, 9999, 2);
        Checks.dueEach("changed, that of", number -> book.mandate(number, 3), 9999, 2);
        book.withdraw(1);
        Checks.due("of one that lapsed", book.mandate(1, 3), 2);
    }

    private static void approvalsNeeded() {
        LapseMandates book = new LapseMandates();
        for (int needed = 0; needed <= 3; needed++) {
            book.give(-1, 0, 5, 5, needed);
        }
        Checks.dueEach("the approvals of", number -> book.mandate(number, 4), 0, 1, 2, 3);
        book.need(0, 3);
        book.need(3, 0);
        Checks.dueEach("changed, those of", number -> book.mandate(number, 4), 3, 1, 2, 0);
    }

    private static void whetherItStands() {
        LapseMandates book = Books.tree();
        Checks.dueEach("whether it stands", number -> book.mandate(number, 5), 1, 1, 1, 1, 1, 1, 1);
        book.withdraw(4);
        book.urge(2, 1);
        Checks.dueEach("withdrawn", number -> book.mandate(number, 5), 1, 1, 1, 1, 0, 0, 1);
        book.pass(4);
        Checks.dueEach("lapsed by days", number -> book.mandate(number, 5), 1, 1, 0, 1, 0, 0, 1);
    }

    private static void itsSum() {
        LapseMandates book = Books.tree();
        book.need(4, 0);
        book.spend(5, 1);
        book.spend(4, 20);
        book.urge(0, 40);
        book.spend(3, 33);
        Checks.dueEach("the sum of", number -> book.mandate(number, 6), 61, 21, 0, 0, 21, 1, 0);
        book.approve(0, 0);
        Checks.dueEach("with one that waited, that of", number -> book.mandate(number, 6), 94, 21, 0, 33, 21, 1, 0);
        book.withdraw(4);
        Checks.due("of one that lapsed", book.mandate(4, 6), 21);
        book.pass(9);
        Checks.due("on day 9", book.mandate(0, 6), 94);
        book.pass(1);
        Checks.dueEach("on day 10, that of", number -> book.mandate(number, 6), 0, 0, 0, 0, 0, 0, 0);
    }

    private static void spentByItAlone() {
        LapseMandates book = Books.tree();
        book.need(4, 0);
        book.spend(5, 1);
        book.spend(4, 20);
        book.urge(0, 40);
        book.spend(2, 7);
        Checks.dueEach("spent by", number -> book.mandate(number, 7), 40, 0, 0, 0, 20, 1, 0);
        book.urge(2, 8);
        Checks.dueEach("with an open one, by", number -> book.mandate(number, 7), 40, 0, 8, 0, 20, 1, 0);
        book.pass(60);
        book.spend(0, 5);
        Checks.dueEach("in other periods, by", number -> book.mandate(number, 7), 45, 0, 8, 0, 20, 1, 0);
        book.withdraw(0);
        Checks.dueEach("when all lapsed, by", number -> book.mandate(number, 7), 45, 0, 8, 0, 20, 1, 0);
    }

    private static void lengthOfItsChain() {
        LapseMandates ladder = Books.ladder();
        Checks.dueEach("the chain of", number -> ladder.mandate(number, 8), 1, 2, 3, 4, 5, 6, 7, 8, 9, 10, 11, 12);
        ladder.set(1, 1);
        Checks.due("longer than may be by now", ladder.mandate(11, 8), 12);
        LapseMandates tree = Books.tree();
        tree.withdraw(1);
        Checks.dueEach("with those that lapsed, that of", number -> tree.mandate(number, 8), 1, 2, 3, 2, 3, 4, 1);
    }

    private static void howManyUnderIt() {
        LapseMandates ladder = Books.ladder();
        Checks.dueEach("under", number -> ladder.mandate(number, 9), 11, 10, 9, 8, 7, 6, 5, 4, 3, 2, 1, 0);
        LapseMandates tree = Books.tree();
        Checks.dueEach("under", number -> tree.mandate(number, 9), 5, 3, 0, 0, 1, 0, 0);
        tree.withdraw(5);
        Checks.dueEach("without 5, under", number -> tree.mandate(number, 9), 4, 2, 0, 0, 0, 0, 0);
        tree.withdraw(1);
        Checks.dueEach("without 1, 2, 4, 5, under", number -> tree.mandate(number, 9), 1, 0, 0, 0, 0, 0, 0);
        tree.withdraw(0);
        Checks.dueEach("when all but 6 lapsed, under", number -> tree.mandate(number, 9), 0, 0, 0, 0, 0, 0, 0);
    }

    private static void requestsByIt() {
        LapseMandates book = Books.tree();
        Checks.dueEach("at first, by", number -> book.mandate(number, 10), 0, 0, 0, 0, 0, 0, 0);
        Checks.write(book, "s2:1;u2:2;s3:3;s2:4;u4:5;s4:6");
        book.run();
        Checks.dueEach("six, by", number -> book.mandate(number, 10), 0, 0, 3, 1, 2, 0, 0);
        book.approve(2, 0);
        book.takeBack(0);
        Checks.dueEach("four, by", number -> book.mandate(number, 10), 0, 0, 2, 0, 2, 0, 0);
        book.withdraw(1);
        Checks.dueEach("the open ones of lapsed ones, by", number -> book.mandate(number, 10), 0, 0, 1, 0, 1, 0, 0);
    }

    private static void dayOfItsLapse() {
        LapseMandates book = Books.tree();
        Checks.dueEach("it stands", number -> book.mandate(number, 11), -1, -1, -1, -1, -1, -1, LapseMandates.NONE);
        book.withdraw(5);
        Checks.due("on the day 0", book.mandate(5, 11), 0);
        book.urge(4, 1);
        book.pass(60);
        Checks.due("of several days, the one on which it was too late", book.mandate(4, 11), 4);
        book.withdraw(1);
        Checks.dueEach("each on its own day", number -> book.mandate(number, 11), -1, 60, 60, -1, 4, 0, -1);
        Books.passTo(book, 5000);
        book.withdraw(0);
        Checks.dueEach("on the last day, too", number -> book.mandate(number, 11), 5000, 60, 60, 5000, 4, 0, -1);
    }

    private static void mandateNoMandate() {
        LapseMandates empty = new LapseMandates();
        Checks.dueThrows(empty, "mandate", Checks.OUT_OF_BOUNDS, number -> empty.mandate(number, 0),
                Checks.MIN, -1, 0, 1, Checks.MAX);
        LapseMandates book = Books.chain(0);
        Checks.dueThrows(book, "mandate", Checks.OUT_OF_BOUNDS, number -> book.mandate(number, 0),
                Checks.MIN, -1, 3, 11, 12, Checks.MAX);
        Checks.dueThrow(book, "mandate(3, 12)", Checks.OUT_OF_BOUNDS, () -> book.mandate(3, 12));
        book.undo();
        Checks.dueThrow(book, "mandate(2, 0), undone", Checks.OUT_OF_BOUNDS, () -> book.mandate(2, 0));
        LapseMandates full = Books.twelve();
        Checks.due("the twelfth", full.mandate(11, 1), 3);
        Checks.dueThrow(full, "mandate(12, 1)", Checks.OUT_OF_BOUNDS, () -> full.mandate(12, 1));
    }

    private static void mandateNoProperty() {
        LapseMandates book = Books.chain(0);
        Checks.dueThrows(book, "mandate(0)", Checks.ILLEGAL_ARGUMENT, what -> book.mandate(0, what),
                Checks.MIN, -1, 12, 13, Checks.MAX);
        book.withdraw(0);
        Checks.dueThrows(book, "mandate(0), lapsed", Checks.ILLEGAL_ARGUMENT, what -> book.mandate(0, what), -1, 12);
        Checks.due("the first", book.mandate(0, 0), -1);
        Checks.due("the last", book.mandate(0, 11), 0);
    }

    // ---- Promise 18

    private static void request() {
        String where = "Promise 18";
        Checks.test(where, "0: its mandate;", TellingEdgesTest::itsMandate);
        Checks.test(where, "1: its amount;", TellingEdgesTest::itsAmount);
        Checks.test(where, "2: the day on which it was asked for;", TellingEdgesTest::itsDay);
        Checks.test(where, "3: 1 if it is urgent, otherwise 0;", TellingEdgesTest::whetherItIsUrgent);
        Checks.test(where, "4: the approvals that it needs;", TellingEdgesTest::approvalsItNeeds);
        Checks.test(where, "5: the persons who approved it, as a mask;", TellingEdgesTest::whoApproved);
        Checks.test(where, "6: the persons who could approve it now, as a mask", TellingEdgesTest::whoCouldApprove);
        Checks.test(where, "Throws `IndexOutOfBoundsException` if there is no such request",
                TellingEdgesTest::requestNoRequest);
        Checks.test(where, "Throws `IllegalArgumentException` if what is not 0 to 6",
                TellingEdgesTest::requestNoProperty);
    }

    private static void itsMandate() {
        LapseMandates book = Books.full();
        Checks.dueEach("the mandate of", request -> book.request(request, 0), 1, 2, 3, 9, 10, 11);
        book.takeBack(0);
        Checks.dueEach("the first is gone, that of", request -> book.request(request, 0), 2, 3, 9, 10, 11);
        LapseMandates one = Books.one(5, 5, 1);
        one.spend(0, 1);
        Checks.due("the mandate 0", one.request(0, 0), 0);
    }

    private static void itsAmount() {
        LapseMandates book = Books.one(9999, 9999, 1);
        book.spend(0, 9999);
        book.spend(0, 1);
        book.urge(0, 4999);
        Checks.dueEach("the amount of", request -> book.request(request, 1), 9999, 1, 4999);
        book.limit(0, 1, 1);
        Checks.due("above its limit by now", book.request(0, 1), 9999);
    }

    private static void itsDay() {
        LapseMandates book = Books.one(10, 10, 1);
        book.set(0, 30);
        book.spend(0, 1);
        book.pass(7);
        book.urge(0, 1);
        book.pass(2);
        book.spend(0, 1);
        Checks.dueEach("the day of", request -> book.request(request, 2), 0, 7, 9);
        book.takeBack(0);
        Checks.dueEach("the first is gone, that of", request -> book.request(request, 2), 7, 9);
        LapseMandates last = Books.one(10, 10, 1);
        Books.passTo(last, 5000);
        last.spend(0, 1);
        Checks.due("the last day", last.request(0, 2), 5000);
    }

    private static void whetherItIsUrgent() {
        LapseMandates book = Books.full();
        Checks.dueEach("whether urgent:", request -> book.request(request, 3), 0, 0, 1, 0, 1, 0);
        book.takeBack(0);
        book.spend(1, 1);
        Checks.dueEach("one gone, another new:", request -> book.request(request, 3), 0, 1, 0, 1, 0, 0);
    }

    private static void approvalsItNeeds() {
        LapseMandates book = Books.full();
        Checks.dueEach("the approvals of", request -> book.request(request, 4), 1, 2, 3, 1, 2, 3);
        book.need(3, 0);
        book.need(1, 3);
        book.approve(5, 0);
        Checks.dueEach("as when asked for, those of", request -> book.request(request, 4), 1, 2, 3, 1, 2, 3);
    }

    private static void whoApproved() {
        LapseMandates book = new LapseMandates();
        book.give(-1, 0, 9, 99, 0);
        book.give(0, 7, 9, 99, 0);
        book.give(1, 4, 9, 99, 0);
        book.give(2, 2, 9, 99, 3);
        book.spend(3, 1);
        book.urge(3, 1);
        Checks.due("nobody", book.request(0, 5), 0);
        book.approve(0, 7);
        Checks.due("the last person", book.request(0, 5), 0b10000000);
        Checks.due("nobody for the other", book.request(1, 5), 0);
        book.approve(0, 0);
        Checks.due("the first, too", book.request(0, 5), 0b10000001);
        book.approve(1, 4);
        Checks.due("of the other", book.request(1, 5), 0b00010000);
        book.takeBack(0);
        Checks.due("as its number is less", book.request(0, 5), 0b00010000);
        book.spend(3, 1);
        Checks.due("nobody for a new one", book.request(1, 5), 0);
    }

    private static void whoCouldApprove() {
        LapseMandates book = new LapseMandates();
        book.give(-1, 0, 9, 99, 3);
        book.give(0, 7, 9, 99, 3);
        book.give(1, 4, 9, 99, 3);
        book.give(2, 7, 9, 99, 3);
        for (int number = 0; number < 4; number++) {
            book.spend(number, 1);
        }
        Checks.dueEach("who could approve", request -> book.request(request, 6), 0, 0b1, 0b10000001, 0b00010001);
        book.approve(2, 7);
        Checks.due("not who did", book.request(2, 6), 0b1);
        book.approve(2, 0);
        Checks.due("nobody is left", book.request(2, 6), 0);
        book.urge(3, 1);
        book.withdraw(0);
        Checks.due("by those that lapsed", book.request(0, 6), 0b00010001);
    }

    private static void requestNoRequest() {
        LapseMandates empty = Books.chain(1);
        Checks.dueThrows(empty, "request", Checks.OUT_OF_BOUNDS, request -> empty.request(request, 0), -1, 0);
        empty.spend(0, 1);
        Checks.dueThrows(empty, "request", Checks.OUT_OF_BOUNDS, request -> empty.request(request, 0),
                Checks.MIN, -1, 1, 5, 6, Checks.MAX);
        Checks.dueThrow(empty, "request(1, 7)", Checks.OUT_OF_BOUNDS, () -> empty.request(1, 7));
        LapseMandates full = Books.full();
        Checks.due("the sixth", full.request(5, 0), 11);
        Checks.dueThrow(full, "request(6, 0)", Checks.OUT_OF_BOUNDS, () -> full.request(6, 0));
        full.takeBack(0);
        Checks.dueThrow(full, "request(5, 0), gone", Checks.OUT_OF_BOUNDS, () -> full.request(5, 0));
    }

    private static void requestNoProperty() {
        LapseMandates book = Books.one(9, 9, 2);
        book.spend(0, 5);
        Checks.dueThrows(book, "request(0)", Checks.ILLEGAL_ARGUMENT, what -> book.request(0, what),
                Checks.MIN, -1, 7, 8, Checks.MAX);
        Checks.due("the first", book.request(0, 0), 0);
        Checks.due("the last", book.request(0, 6), 0);
    }

    // ---- Promise 19

    private static void person() {
        String where = "Promise 19";
        Checks.test(where, "`person`: 0 to 7", TellingEdgesTest::personEdges);
        Checks.test(where, "0: how many mandates that stand the person holds;", TellingEdgesTest::holds);
        Checks.test(where, "1: what was spent so far by mandates that the person holds or held;",
                TellingEdgesTest::spentByTheirs);
        Checks.test(where, "2: approvals of the person so far;", TellingEdgesTest::approvalsSoFar);
        Checks.test(where, "3: how many requests the person could approve now", TellingEdgesTest::couldApproveNow);
        Checks.test(where, "Throws `IndexOutOfBoundsException` if there is no such person",
                TellingEdgesTest::personNoPerson);
        Checks.test(where, "Throws `IllegalArgumentException` if what is not 0 to 3",
                TellingEdgesTest::personNoNumber);
    }

    private static void personEdges() {
        LapseMandates book = new LapseMandates();
        book.give(-1, 0, 9, 99, 0);
        book.give(-1, 7, 9, 99, 0);
        book.spend(0, 3);
        book.spend(1, 4);
        Checks.dueEach("spent by", person -> book.person(person, 1), 3, 0, 0, 0, 0, 0, 0, 4);
    }

    private static void holds() {
        LapseMandates book = Books.twelve();
        Checks.dueEach("held by", person -> book.person(person, 0), 2, 2, 2, 2, 1, 1, 1, 1);
        book.withdraw(8);
        book.withdraw(7);
        Checks.dueEach("without 7 and 8, by", person -> book.person(person, 0), 1, 2, 2, 2, 1, 1, 1, 0);
        LapseMandates all = new LapseMandates();
        for (int number = 0; number < 12; number++) {
            all.give(-1, 7, 1, 1, 0);
        }
        Checks.due("all twelve", all.person(7, 0), 12);
        Checks.due("none", all.person(0, 0), 0);
    }

    private static void spentByTheirs() {
        LapseMandates book = Books.twelve();
        book.spend(0, 100);
        book.spend(8, 20);
        book.urge(7, 3);
        Checks.dueEach("spent by", person -> book.person(person, 1), 120, 0, 0, 0, 0, 0, 0, 3);
        book.withdraw(0);
        book.pass(60);
        Checks.dueEach("held before, and in another period, by", person -> book.person(person, 1),
                120, 0, 0, 0, 0, 0, 0, 3);
        LapseMandates chain = Books.chain(1);
        chain.spend(2, 50);
        Checks.due("not what waits", chain.person(2, 1), 0);
        chain.approve(0, 0);
        Checks.dueEach("by the holder of its mandate alone:", person -> chain.person(person, 1), 0, 0, 50, 0);
        chain.urge(2, 50);
        Checks.due("what is open", chain.person(2, 1), 100);
    }

    private static void approvalsSoFar() {
        LapseMandates book = Books.chain(2);
        book.spend(2, 1);
        book.spend(2, 1);
        book.approve(0, 0);
        book.approve(1, 0);
        book.approve(1, 1);
        Checks.dueEach("approvals of", person -> book.person(person, 2), 2, 1, 0);
        book.limit(2, 200, 1);
        book.approve(0, 1);
        Checks.dueEach("with one that has failed, of", person -> book.person(person, 2), 2, 2, 0);
        book.undo();
        Checks.dueEach("undone, of", person -> book.person(person, 2), 2, 1, 0);
        book.takeBack(0);
        Checks.dueEach("when it was taken back, of", person -> book.person(person, 2), 2, 1, 0);
        book.withdraw(0);
        book.pass(60);
        Checks.dueEach("when all lapsed, of", person -> book.person(person, 2), 2, 1, 0, 0, 0, 0, 0, 0);
        LapseMandates last = new LapseMandates();
        last.give(-1, 7, 9, 9, 0);
        last.give(0, 6, 9, 9, 1);
        last.urge(1, 1);
        last.approve(0, 7);
        Checks.dueEach("of", person -> last.person(person, 2), 0, 0, 0, 0, 0, 0, 0, 1);
    }

    private static void couldApproveNow() {
        LapseMandates book = Books.chain(2);
        Checks.dueEach("nothing waits:", person -> book.person(person, 3), 0, 0, 0, 0, 0, 0, 0, 0);
        Checks.write(book, "s2:1;u2:1;s1:1;u1:1;s0:1;u0:1");
        book.run();
        Checks.dueEach("six wait:", person -> book.person(person, 3), 4, 2, 0, 0, 0, 0, 0, 0);
        book.approve(0, 0);
        book.approve(1, 1);
        Checks.dueEach("not what they did approve:", person -> book.person(person, 3), 3, 1, 0, 0);
        book.withdraw(0);
        Checks.dueEach("open ones of lapsed ones:", person -> book.person(person, 3), 2, 0, 0, 0);
        LapseMandates six = Books.chain(1);
        six.give(-1, 7, 9, 9, 0);
        for (int turn = 0; turn < 6; turn++) {
            six.spend(2, 1);
        }
        Checks.dueEach("all six:", person -> six.person(person, 3), 6, 6, 0, 0, 0, 0, 0, 0);
    }

    private static void personNoPerson() {
        LapseMandates empty = new LapseMandates();
        Checks.dueThrows(empty, "person", Checks.OUT_OF_BOUNDS, person -> empty.person(person, 0),
                Checks.MIN, -1, 8, 9, 32, Checks.MAX);
        LapseMandates full = Books.full();
        Checks.dueThrows(full, "person", Checks.OUT_OF_BOUNDS, person -> full.person(person, 3),
                Checks.MIN, -1, 8, Checks.MAX);
        Checks.dueThrow(full, "person(8, 4)", Checks.OUT_OF_BOUNDS, () -> full.person(8, 4));
        Checks.due("who holds nothing", empty.person(7, 0), 0);
    }

    private static void personNoNumber() {
        LapseMandates book = Books.chain(0);
        Checks.dueThrows(book, "person(0)", Checks.ILLEGAL_ARGUMENT, what -> book.person(0, what),
                Checks.MIN, -1, 4, 5, Checks.MAX);
        Checks.dueThrows(book, "person(7)", Checks.ILLEGAL_ARGUMENT, what -> book.person(7, what), -1, 4);
        Checks.due("the first", book.person(0, 0), 1);
        Checks.due("the last", book.person(0, 3), 0);
    }

    // ---- Promise 20

    private static void count() {
        String where = "Promise 20";
        Checks.test(where, "0: mandates;", TellingEdgesTest::countsMandates);
        Checks.test(where, "1: those that stand;", TellingEdgesTest::countsThoseThatStand);
        Checks.test(where, "2: requests that wait (urgent ones, too);", TellingEdgesTest::countsRequests);
        Checks.test(where, "3: number of the day;", TellingEdgesTest::tellsTheDay);
        Checks.test(where, "4: period;", TellingEdgesTest::tellsThePeriod);
        Checks.test(where, "5: what was spent so far;", TellingEdgesTest::countsWhatWasSpent);
        Checks.test(where, "6: what was spent in the present period;", TellingEdgesTest::countsThePeriod);
        Checks.test(where, "7: spendings so far (with urgent ones);", TellingEdgesTest::countsSpendings);
        Checks.test(where, "8: urgent ones so far;", TellingEdgesTest::countsUrgentOnes);
        Checks.test(where, "9: requests that were dropped by a lapse, or have failed, so far (no urgent ones);",
                TellingEdgesTest::countsDroppedOrFailed);
        Checks.test(where, "10: mandates that lapsed by urgent ones that were too late so far (with those under them);",
                TellingEdgesTest::countsLapsedByLate);
        Checks.test(where, "11: saved states", TellingEdgesTest::countsSavedStates);
        Checks.test(where, "Throws `IllegalArgumentException` if what is not 0 to 11",
                TellingEdgesTest::countNoNumber);
    }

    private static void countsMandates() {
        LapseMandates book = new LapseMandates();
        for (int number = 0; number < 12; number++) {
            Checks.due("before another", book.count(0), number);
            book.give(-1, 0, 1, 1, 0);
        }
        Checks.due("all twelve", book.count(0), 12);
        book.withdraw(3);
        Checks.due("with those that lapsed", book.count(0), 12);
        book.undo();
        book.undo();
        Checks.due("one undone", book.count(0), 11);
    }

    private static void countsThoseThatStand() {
        LapseMandates book = Books.ladder();
        Checks.due("all", book.count(1), 12);
        book.withdraw(9);
        Checks.due("without three", book.count(1), 9);
        book.need(8, 1);
        book.urge(8, 1);
        book.pass(4);
        Checks.due("without four", book.count(1), 8);
        book.withdraw(0);
        Checks.due("none", book.count(1), 0);
    }

    private static void countsRequests() {
        LapseMandates book = Books.chain(1);
        Checks.due("none", book.count(2), 0);
        for (int waiting = 1; waiting <= 6; waiting++) {
            Checks.due("one more", waiting % 2 == 0 ? book.spend(2, 1) : book.urge(2, 1), 1);
            Checks.due("how many", book.count(2), waiting);
        }
        book.pass(4);
        Checks.due("three were too late, three were dropped", book.count(2), 0);
    }

    private static void tellsTheDay() {
        LapseMandates book = new LapseMandates();
        Checks.due("at first", book.count(3), 0);
        book.pass(1);
        Checks.due("one on", book.count(3), 1);
        book.pass(60);
        Checks.due("sixty on", book.count(3), 61);
        book.undo();
        Checks.due("undone", book.count(3), 1);
        Books.passTo(book, 5000);
        Checks.due("the last", book.count(3), 5000);
    }

    private static void tellsThePeriod() {
        LapseMandates book = new LapseMandates();
        Checks.due("at first", book.count(4), 0);
        book.pass(9);
        Checks.due("on day 9", book.count(4), 0);
        book.pass(1);
        Checks.due("on day 10", book.count(4), 1);
        Books.passTo(book, 4999);
        Checks.due("on day 4999", book.count(4), 499);
        book.pass(1);
        Checks.due("on day 5000", book.count(4), 500);
    }

    private static void countsWhatWasSpent() {
        LapseMandates book = Books.chain(0);
        book.need(2, 1);
        book.spend(0, 10);
        book.spend(2, 1);
        Checks.due("not what waits", book.count(5), 10);
        book.urge(2, 5);
        Checks.due("what is open", book.count(5), 15);
        book.approve(0, 1);
        Checks.due("what was approved", book.count(5), 16);
        book.approve(0, 1);
        Checks.due("what is done with is not spent again", book.count(5), 16);
        book.pass(60);
        book.withdraw(0);
        Checks.due("in other periods, by those that lapsed", book.count(5), 16);
        LapseMandates most = Books.twelve();
        for (int number = 0; number < 12; number++) {
            most.spend(number, 9999);
        }
        Checks.due("all that can be in a period", most.count(5), 119988);
        most.pass(10);
        most.spend(0, 9999);
        Checks.due("more in the next", most.count(5), 129987);
    }

    private static void countsThePeriod() {
        LapseMandates book = Books.chain(0);
        book.spend(2, 10);
        book.urge(0, 5);
        Checks.due("once, though it counts for three", book.count(6), 15);
        book.pass(9);
        book.spend(1, 1);
        book.withdraw(1);
        Checks.due("on day 9", book.count(6), 16);
        book.pass(1);
        Checks.due("on day 10", book.count(6), 0);
        book.spend(0, 7);
        Checks.due("on day 10, spent again", book.count(6), 7);
        book.pass(60);
        Checks.due("on day 70", book.count(6), 0);
        LapseMandates most = Books.twelve();
        for (int number = 0; number < 12; number++) {
            most.spend(number, 9999);
        }
        Checks.due("all that can be", most.count(6), 119988);
    }

    private static void countsSpendings() {
        LapseMandates book = Books.chain(0);
        book.need(2, 1);
        Checks.due("none", book.count(7), 0);
        book.spend(0, 1);
        book.urge(0, 1);
        Checks.due("with an urgent one", book.count(7), 2);
        book.spend(2, 200);
        book.spend(2, 1);
        book.urge(2, 1);
        Checks.due("with an open one, without those that wait", book.count(7), 3);
        book.approve(2, 0);
        Checks.due("an urgent one counts once", book.count(7), 3);
        book.approve(1, 0);
        Checks.due("with one that was approved", book.count(7), 4);
        book.limit(2, 199, 400);
        book.approve(0, 0);
        Checks.due("without one that has failed", book.count(7), 4);
        book.pass(60);
        Checks.due("in other periods", book.count(7), 4);
    }

    private static void countsUrgentOnes() {
        LapseMandates book = Books.chain(0);
        book.need(2, 1);
        book.spend(0, 1);
        book.spend(2, 1);
        book.approve(0, 0);
        Checks.due("none", book.count(8), 0);
        book.urge(0, 1);
        Checks.due("one that is done with", book.count(8), 1);
        book.urge(2, 1);
        Checks.due("one that is open", book.count(8), 2);
        book.approve(0, 0);
        Checks.due("approved", book.count(8), 2);
        book.urge(2, 1);
        book.pass(60);
        Checks.due("too late", book.count(8), 3);
    }

    private static void countsDroppedOrFailed() {
        LapseMandates book = Books.chain(1);
        Checks.write(book, "s2:200;u2:3;s2:4;s1:5;s0:6;u1:7");
        book.run();
        book.limit(2, 199, 400);
        book.approve(0, 0);
        Checks.due("one has failed", book.count(9), 1);
        book.takeBack(1);
        Checks.due("one taken back does not count", book.count(9), 1);
        book.spend(2, 8);
        book.withdraw(1);
        Checks.due("two were dropped", book.count(9), 3);
        book.pass(4);
        Checks.due("urgent ones that are too late do not count", book.count(9), 3);
        book.urge(0, 1);
        book.pass(4);
        Checks.due("one was dropped by a lapse by days", book.count(9), 4);
    }

    private static void countsLapsedByLate() {
        LapseMandates book = Books.tree();
        book.withdraw(5);
        Checks.due("not those withdrawn", book.count(10), 0);
        book.urge(2, 1);
        book.pass(3);
        Checks.due("not yet too late", book.count(10), 0);
        book.pass(1);
        Checks.due("one", book.count(10), 1);
        book.need(1, 1);
        book.urge(1, 1);
        book.pass(4);
        Checks.due("with one under it, without those that lapsed before", book.count(10), 3);
        book.need(0, 1);
        book.urge(0, 1);
        book.withdraw(3);
        book.withdraw(0);
        book.pass(4);
        Checks.due("none, as it had lapsed", book.count(10), 3);
        LapseMandates ladder = Books.ladder();
        ladder.need(0, 1);
        ladder.urge(0, 1);
        ladder.pass(60);
        Checks.due("all twelve", ladder.count(10), 12);
    }

    private static void countsSavedStates() {
        LapseMandates book = new LapseMandates();
        for (int saved = 0; saved < 9; saved++) {
            Checks.due("saved states", book.count(11), Math.min(6, saved));
            book.give(-1, 0, 1, 1, 0);
        }
        book.undo();
        Checks.due("one less", book.count(11), 5);
    }

    private static void countNoNumber() {
        LapseMandates empty = new LapseMandates();
        Checks.dueThrows(empty, "count", Checks.ILLEGAL_ARGUMENT, empty::count, Checks.MIN, -1, 12, 13, Checks.MAX);
        LapseMandates full = Books.full();
        Checks.dueThrows(full, "count", Checks.ILLEGAL_ARGUMENT, full::count, Checks.MIN, -1, 12, Checks.MAX);
        Checks.due("the first", full.count(0), 12);
        Checks.due("the last", full.count(11), 6);
    }

    // ---- Promise 21

    private static void setting() {
        String where = "Promise 21";
        Checks.test(where, "`setting`: 0 or 1", TellingEdgesTest::settings);
        Checks.test(where, "Returns its value.", TellingEdgesTest::settingValues);
        Checks.test(where, "Throws `IndexOutOfBoundsException` if there is no such setting",
                TellingEdgesTest::settingNoSetting);
    }

    private static void settings() {
        LapseMandates book = new LapseMandates();
        Checks.dueEach("at first, setting", book::setting, 3, 4);
        book.set(0, 5);
        Checks.dueEach("the first was changed, setting", book::setting, 5, 4);
        book.set(1, 6);
        Checks.dueEach("the second, too, setting", book::setting, 5, 6);
    }

    private static void settingValues() {
        LapseMandates book = new LapseMandates();
        for (int value = 0; value <= 30; value++) {
            book.set(0, value);
            Checks.due("setting(0)", book.setting(0), value);
        }
        for (int value = 1; value <= 12; value++) {
            book.set(1, value);
            Checks.due("setting(1)", book.setting(1), value);
        }
        book.undo();
        Checks.dueEach("undone, setting", book::setting, 30, 11);
    }

    private static void settingNoSetting() {
        LapseMandates book = new LapseMandates();
        Checks.dueThrows(book, "setting", Checks.OUT_OF_BOUNDS, book::setting, Checks.MIN, -1, 2, 3, Checks.MAX);
    }
}
