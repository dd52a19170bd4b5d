/**
 * What the document says of whyNot, room, under, narrowest, lapsesIn, usedShare and digest
 * (promises 22 to 28), sentence by sentence: each that names an edge has a test of its own.
 */
public final class WouldBeEdgesTest {
    private static final String FULL = "s0:1;u1:2;s2:3;u3:4;s4:5;u5:6;s6:7;u7:8;s8:9;u9:1;s10:2;u11:";
    private static final long HASH_OF_A_NEW_ONE = 2763299401406825968L;
    private static final long HASH_OF_A_SMALL_ONE = 1810854234148169994L;

    private WouldBeEdgesTest() {
    }

    public static void main(String[] args) {
        nothingIsChanged();
        whyNot();
        room();
        under();
        narrowest();
        lapsesIn();
        usedShare();
        digest();
        Checks.close();
    }

    // ---- ahead of the calls

    private static void nothingIsChanged() {
        Checks.test("Terms", "---- what would be; nothing is changed.", WouldBeEdgesTest::changesNothing);
    }

    private static void changesNothing() {
        dueUnchanged("whyNot", book -> askEach(number -> book.whyNot(number, 1) + book.whyNot(number, 9999)));
        dueUnchanged("room", book -> askEach(number -> book.room(number, false) + book.room(number, true)));
        dueUnchanged("under", book -> askEach(book::under));
        dueUnchanged("narrowest", book -> askEach(book::narrowest));
        dueUnchanged("lapsesIn", book -> askEach(book::lapsesIn));
        dueUnchanged("usedShare", book -> askEach(number -> (long) book.usedShare(number)));
        dueUnchanged("digest", book -> askEach(number -> book.digest()));
    }

    private interface Asking {
        void askOf(LapseMandates book);
    }

    private static void askEach(Checks.CallOf call) {
        for (int number = 0; number < 12; number++) {
            call.answer(number);
        }
    }

    /** Also the six saved states are as before, which only undo shows. */
    private static void dueUnchanged(String name, Asking asking) {
        LapseMandates asked = Books.full();
        LapseMandates same = Books.full();
        asking.askOf(asked);
        for (int left = 6; left > 0; left--) {
            Checks.due(name + ": digest(), " + left + " saved", asked.digest(), same.digest());
            asked.undo();
            same.undo();
        }
        Checks.due(name + ": the buffer", asked.clearBuffer(), 60);
    }

    // ---- Promise 22

    private static void whyNot() {
        String where = "Promise 22";
        Checks.test(where, "Tells why a spending would be refused.", WouldBeEdgesTest::whyNotAsSpend);
        Checks.test(where, "`amount`: 1 to 9999", WouldBeEdgesTest::whyNotAmounts);
        Checks.test(where, "Returns the reason, 0 if it would not be.", WouldBeEdgesTest::whyNotReasons);
        Checks.test(where, "Throws `IndexOutOfBoundsException` if there is no such mandate",
                WouldBeEdgesTest::whyNotNoMandate);
        Checks.test(where, "Throws `IllegalArgumentException` if amount is out of range",
                WouldBeEdgesTest::whyNotOutOfRange);
    }

    /** spend() throws where there is a reason, and nowhere else. */
    private static void whyNotAsSpend() {
        int[][] amounts = {{0, 101}, {0, 100}, {1, 31}, {1, 30}, {2, 21}, {2, 20}, {2, 1}, {3, 1}};
        for (int[] amount : amounts) {
            LapseMandates book = new LapseMandates();
            book.give(-1, 0, 100, 200, 0);
            book.give(0, 1, 30, 60, 0);
            book.give(1, 2, 30, 50, 0);
            book.give(1, 3, 1, 1, 0);
            book.spend(2, 30);
            book.withdraw(3);
            boolean isRefused = book.whyNot(amount[0], amount[1]) != 0;
            if (isRefused) {
                Checks.dueThrow(book, "spend", Checks.ILLEGAL_STATE, () -> book.spend(amount[0], amount[1]));
            } else {
                Checks.due("spend", book.spend(amount[0], amount[1]), 0);
            }
            boolean isDue = amount[1] == 101 || amount[1] == 31 || amount[1] == 21 || amount[0] == 3;
            Checks.due("refused: " + amount[1] + " by " + amount[0], isRefused ? 1 : 0, isDue ? 1 : 0);
        }
    }

    private static void whyNotAmounts() {
        LapseMandates book = Books.one(9999, 9999, 0);
        Checks.due("the least", book.whyNot(0, 1), 0);
        Checks.due("the greatest", book.whyNot(0, 9999), 0);
        book.limit(0, 9998, 9999);
        Checks.due("the greatest, above each", book.whyNot(0, 9999), 2);
        Checks.due("as much", book.whyNot(0, 9998), 0);
        book.limit(0, 9999, 9998);
        Checks.due("the greatest, above the period", book.whyNot(0, 9999), 3);
        book.limit(0, 1, 1);
        Checks.due("the least, as much as both", book.whyNot(0, 1), 0);
    }

    private static void whyNotReasons() {
        LapseMandates book = Books.chain(1);
        Checks.due("0", book.whyNot(2, 200), 0);
        Checks.due("2", book.whyNot(2, 201), 2);
        book.need(0, 0);
        book.spend(0, 500);
        book.spend(0, 400);
        Checks.due("3", book.whyNot(2, 101), 3);
        Checks.due("0, as much as is left above", book.whyNot(2, 100), 0);
        Checks.due("2, if 3 would be told, too", book.whyNot(2, 201), 2);
        book.limit(2, 200, 1);
        Checks.due("3, for its own", book.whyNot(2, 2), 3);
        book.withdraw(2);
        Checks.due("1", book.whyNot(2, 1), 1);
        Checks.due("1, if 2 and 3 would be told, too", book.whyNot(2, 9999), 1);
        Checks.due("an urgent one's half is no reason", book.whyNot(1, 100), 0);
    }

    private static void whyNotNoMandate() {
        LapseMandates empty = new LapseMandates();
        Checks.dueThrows(empty, "whyNot of", Checks.OUT_OF_BOUNDS, number -> empty.whyNot(number, 1), -1, 0);
        LapseMandates book = Books.chain(0);
        Checks.dueThrows(book, "whyNot of", Checks.OUT_OF_BOUNDS, number -> book.whyNot(number, 1),
                Checks.MIN, -1, 3, 11, 12, Checks.MAX);
        Checks.dueThrow(book, "whyNot(3, 0)", Checks.OUT_OF_BOUNDS, () -> book.whyNot(3, 0));
        Checks.due("of the last one", book.whyNot(2, 1), 0);
    }

    private static void whyNotOutOfRange() {
        LapseMandates book = Books.chain(0);
        Checks.dueThrows(book, "whyNot(0)", Checks.ILLEGAL_ARGUMENT, amount -> book.whyNot(0, amount),
                Checks.MIN, -1, 0, 10000, Checks.MAX);
        book.withdraw(0);
        Checks.dueThrows(book, "whyNot(0), lapsed", Checks.ILLEGAL_ARGUMENT, amount -> book.whyNot(0, amount),
                0, 10000);
    }

    // ---- Promise 23

    private static void room() {
        String where = "Promise 23";
        Checks.test(where, "Returns the greatest amount that would not be refused", WouldBeEdgesTest::greatestAmount);
        Checks.test(where, "(and, if it is urgent, not be too great for that)", WouldBeEdgesTest::greatestUrgent);
        Checks.test(where, "0 if there is none.", WouldBeEdgesTest::noRoom);
        Checks.test(where, "Throws `IndexOutOfBoundsException` if there is no such mandate",
                WouldBeEdgesTest::roomNoMandate);
    }

    /** As much can be spent, and 1 more cannot. */
    private static void dueRoom(String name, LapseMandates book, int mandate, int amount) {
        Checks.due(name, book.room(mandate, false), amount);
        Checks.due(name + ": as much", book.whyNot(mandate, amount), 0);
        if (amount < 9999) {
            Checks.dueThrow(book, name + ": more by 1", Checks.ILLEGAL_STATE, () -> book.spend(mandate, amount + 1));
        }
        Checks.due(name + ": spend", book.spend(mandate, amount), 0);
        book.undo();
    }

    private static void greatestAmount() {
        LapseMandates book = Books.chain(0);
        dueRoom("its limit for each", book, 2, 200);
        dueRoom("that of the topmost", book, 0, 500);
        book.spend(2, 200);
        book.spend(2, 100);
        dueRoom("what is left of its period", book, 2, 100);
        book.spend(1, 250);
        dueRoom("what is left of the one above", book, 2, 50);
        book.spend(0, 449);
        dueRoom("what is left of the topmost", book, 2, 1);
        dueRoom("what is left of the topmost, for itself", book, 0, 1);
        book.pass(10);
        dueRoom("in the next period", book, 2, 200);
        LapseMandates ladder = Books.ladder();
        ladder.need(11, 0);
        ladder.spend(0, 1);
        dueRoom("what is left of the topmost of twelve", ladder, 11, 99);
        LapseMandates most = Books.twelve();
        dueRoom("the greatest of all", most, 11, 9999);
        most.limit(11, 9999, 1);
        dueRoom("the least of all", most, 11, 1);
    }

    private static void dueUrgentRoom(String name, LapseMandates book, int mandate, int amount) {
        Checks.due(name, book.room(mandate, true), amount);
        Checks.dueThrow(book, name + ": more by 1", Checks.ILLEGAL_STATE, () -> book.urge(mandate, amount + 1));
        if (amount > 0) {
            Checks.due(name + ": urge", book.urge(mandate, amount), 0);
            book.undo();
        }
    }

    private static void greatestUrgent() {
        LapseMandates book = Books.chain(0);
        dueUrgentRoom("half of its limit for each", book, 2, 100);
        book.spend(2, 200);
        book.spend(2, 101);
        dueUrgentRoom("what is left of its period", book, 2, 99);
        Checks.due("the same, if it is not urgent", book.room(2, false), 99);
        book.spend(0, 500);
        book.spend(0, 150);
        dueUrgentRoom("what is left of the topmost", book, 2, 49);
        int[][] halves = {{9999, 4999}, {9998, 4999}, {3, 1}, {2, 1}, {1, 0}};
        for (int[] half : halves) {
            LapseMandates one = Books.one(half[0], 9999, 0);
            dueUrgentRoom("half of " + half[0], one, 0, half[1]);
            Checks.due("not urgent, " + half[0], one.room(0, false), half[0]);
        }
    }

    private static void noRoom() {
        LapseMandates spent = Books.one(100, 100, 0);
        spent.spend(0, 100);
        Checks.due("all is spent", spent.room(0, false), 0);
        Checks.due("all is spent, urgent", spent.room(0, true), 0);
        spent.limit(0, 100, 1);
        Checks.due("the sum is above its limit", spent.room(0, false), 0);
        Checks.due("the sum is above its limit, urgent", spent.room(0, true), 0);
        LapseMandates above = Books.chain(0);
        above.spend(0, 500);
        above.spend(0, 500);
        Checks.due("all above is spent", above.room(2, false), 0);
        above.limit(0, 500, 600);
        Checks.due("the sum above is above its limit", above.room(2, false), 0);
        Checks.due("the sum above is above its limit, urgent", above.room(2, true), 0);
        LapseMandates lapsed = Books.chain(0);
        lapsed.withdraw(1);
        Checks.due("it does not stand", lapsed.room(2, false), 0);
        Checks.due("it does not stand, urgent", lapsed.room(1, true), 0);
        Checks.due("the one above stands", lapsed.room(0, false), 500);
        LapseMandates least = Books.one(1, 1, 0);
        Checks.due("half of 1", least.room(0, true), 0);
        Checks.due("1", least.room(0, false), 1);
    }

    private static void roomNoMandate() {
        LapseMandates empty = new LapseMandates();
        Checks.dueThrows(empty, "room of", Checks.OUT_OF_BOUNDS, number -> empty.room(number, false), -1, 0);
        LapseMandates book = Books.chain(0);
        Checks.dueThrows(book, "room of", Checks.OUT_OF_BOUNDS, number -> book.room(number, false),
                Checks.MIN, -1, 3, 11, 12, Checks.MAX);
        Checks.dueThrows(book, "urgent room of", Checks.OUT_OF_BOUNDS, number -> book.room(number, true), -1, 3);
        Checks.due("of the last one", book.room(2, false), 200);
    }

    // ---- Promise 24

    private static void under() {
        String where = "Promise 24";
        Checks.test(where, "Returns the mandates that would lapse, if it was withdrawn, as a mask;",
                WouldBeEdgesTest::wouldLapse);
        Checks.test(where, "0 if it does not stand.", WouldBeEdgesTest::lapsesNoMore);
        Checks.test(where, "Throws `IndexOutOfBoundsException` if there is no such mandate",
                WouldBeEdgesTest::underNoMandate);
    }

    private static void wouldLapse() {
        LapseMandates tree = Books.tree();
        int[] masks = {0b0111111, 0b0110110, 0b0000100, 0b0001000, 0b0110000, 0b0100000, 0b1000000};
        Checks.dueEach("under", tree::under, masks);
        for (int number = 0; number < masks.length; number++) {
            Checks.due("withdraw", tree.withdraw(number), Integer.bitCount(masks[number]));
            Checks.due("what stands", Books.standing(tree), 0b1111111 & ~masks[number]);
            tree.undo();
        }
        LapseMandates ladder = Books.ladder();
        Checks.due("all twelve", ladder.under(0), 0b111111111111);
        Checks.due("the last alone", ladder.under(11), 0b100000000000);
        Checks.due("the last two", ladder.under(10), 0b110000000000);
    }

    private static void lapsesNoMore() {
        LapseMandates tree = Books.tree();
        tree.withdraw(4);
        Checks.dueEach("4 and 5 have lapsed, under", tree::under, 0b0001111, 0b0000110, 0b100, 0b1000, 0, 0, 0b1000000);
        tree.withdraw(0);
        Checks.dueEach("all but 6 have lapsed, under", tree::under, 0, 0, 0, 0, 0, 0, 0b1000000);
        tree.need(6, 1);
        tree.urge(6, 1);
        tree.pass(4);
        Checks.due("lapsed by days", tree.under(6), 0);
    }

    private static void underNoMandate() {
        LapseMandates empty = new LapseMandates();
        Checks.dueThrows(empty, "under", Checks.OUT_OF_BOUNDS, empty::under, -1, 0);
        LapseMandates book = Books.chain(0);
        Checks.dueThrows(book, "under", Checks.OUT_OF_BOUNDS, book::under, Checks.MIN, -1, 3, 11, 12, Checks.MAX);
        Checks.due("the last one", book.under(2), 0b100);
    }

    // ---- Promise 25

    private static void narrowest() {
        String where = "Promise 25";
        Checks.test(where, "Returns the mandate of its chain with the least difference of its limit for a period less "
                + "its sum", WouldBeEdgesTest::leastDifference);
        Checks.test(where, "of several the one nearest to it.", WouldBeEdgesTest::nearestOfSeveral);
        Checks.test(where, "Throws `IndexOutOfBoundsException` if there is no such mandate",
                WouldBeEdgesTest::narrowestNoMandate);
    }

    private static void leastDifference() {
        LapseMandates book = Books.chain(0);
        Checks.dueEach("at first, itself:", book::narrowest, 0, 1, 2);
        book.spend(1, 201);
        Checks.dueEach("399 are left of 1:", book::narrowest, 0, 1, 1);
        book.spend(0, 401);
        Checks.dueEach("398 are left of 0:", book::narrowest, 0, 0, 0);
        book.spend(2, 3);
        Checks.dueEach("397 of 2 are no fewer than 395 of 0:", book::narrowest, 0, 0, 0);
        book.limit(2, 200, 10);
        Checks.dueEach("7 are left of 2:", book::narrowest, 0, 0, 2);
        book.limit(2, 200, 1);
        Checks.dueEach("2 is above its limit by 2:", book::narrowest, 0, 0, 2);
        book.limit(1, 200, 2);
        Checks.dueEach("1 is above its limit by 202:", book::narrowest, 0, 1, 1);
        book.limit(0, 500, 403);
        Checks.dueEach("0 is above its limit by 202, too:", book::narrowest, 0, 1, 1);
        book.limit(0, 500, 402);
        Checks.dueEach("0 is above its limit by 203:", book::narrowest, 0, 0, 0);
        book.withdraw(0);
        Checks.dueEach("when all lapsed:", book::narrowest, 0, 0, 0);
        book.pass(10);
        Checks.dueEach("in the next period:", book::narrowest, 0, 1, 2);
        LapseMandates ladder = Books.ladder();
        ladder.spend(0, 1);
        Checks.dueEach("the topmost of twelve:", ladder::narrowest, 0, 0, 0, 0, 0, 0, 0, 0, 0, 0, 0, 0);
    }

    private static void nearestOfSeveral() {
        LapseMandates same = new LapseMandates();
        same.give(-1, 0, 50, 90, 0);
        same.give(0, 1, 50, 90, 0);
        same.give(1, 2, 50, 90, 0);
        Checks.dueEach("all the same:", same::narrowest, 0, 1, 2);
        same.spend(2, 40);
        Checks.dueEach("all the same, less by 40:", same::narrowest, 0, 1, 2);
        same.spend(1, 1);
        Checks.dueEach("two above:", same::narrowest, 0, 1, 1);
        same.spend(0, 1);
        Checks.dueEach("the topmost:", same::narrowest, 0, 0, 0);
        LapseMandates ladder = Books.ladder();
        Checks.dueEach("all the same:", ladder::narrowest, 0, 1, 2, 3, 4, 5, 6, 7, 8, 9, 10, 11);
        ladder.spend(6, 10);
        Checks.dueEach("seven the same:", ladder::narrowest, 0, 1, 2, 3, 4, 5, 6, 6, 6, 6, 6, 6);
    }

    private static void narrowestNoMandate() {
        LapseMandates empty = new LapseMandates();
        Checks.dueThrows(empty, "narrowest of", Checks.OUT_OF_BOUNDS, empty::narrowest, -1, 0);
        LapseMandates book = Books.chain(0);
        Checks.dueThrows(book, "narrowest of", Checks.OUT_OF_BOUNDS, book::narrowest,
                Checks.MIN, -1, 3, 11, 12, Checks.MAX);
        Checks.due("of the last one", book.narrowest(2), 2);
    }

    // ---- Promise 26

    private static void lapsesIn() {
        String where = "Promise 26";
        Checks.test(where, "Returns in how many days it would lapse by an urgent spending that is too late",
                WouldBeEdgesTest::daysToItsLapse);
        Checks.test(where, "(its own, or one of a mandate above it)", WouldBeEdgesTest::lapsesByOneAbove);
        Checks.test(where, "if nothing but days came;", WouldBeEdgesTest::soonestOfSeveral);
        Checks.test(where, "NONE if it would not,", WouldBeEdgesTest::wouldNotLapse);
        Checks.test(where, "or does not stand.", WouldBeEdgesTest::lapsedBefore);
        Checks.test(where, "Throws `IndexOutOfBoundsException` if there is no such mandate",
                WouldBeEdgesTest::lapsesInNoMandate);
    }

    /** It stands the day before, and lapses on that day. */
    private static void dueLapse(String name, LapseMandates book, int mandate, int days) {
        Checks.due(name, book.lapsesIn(mandate), days);
        int due = book.count(3) + days;
        if (days > 1) {
            book.pass(days - 1);
            Checks.due(name + ": the day before", book.mandate(mandate, 5), 1);
            Checks.due(name + ": it is to come", book.lapsesIn(mandate), 1);
        }
        book.pass(1);
        Checks.due(name + ": on the day", book.mandate(mandate, 5), 0);
        Checks.due(name + ": when it lapsed", book.mandate(mandate, 11), due);
    }

    private static void daysToItsLapse() {
        for (int grace = 0; grace <= 30; grace += 5) {
            LapseMandates book = Books.one(10, 10, 1);
            book.pass(7);
            book.set(0, grace);
            book.urge(0, 1);
            dueLapse("within " + grace + " days", book, 0, grace + 1);
        }
        LapseMandates later = Books.one(10, 10, 1);
        later.urge(0, 1);
        later.pass(2);
        dueLapse("two days on", later, 0, 2);
        LapseMandates more = Books.one(10, 10, 1);
        more.urge(0, 1);
        more.pass(3);
        more.set(0, 30);
        dueLapse("the setting is now more", more, 0, 28);
        LapseMandates fewer = Books.one(10, 10, 1);
        fewer.urge(0, 1);
        fewer.pass(3);
        fewer.set(0, 0);
        dueLapse("it is too late already, and a day must pass", fewer, 0, 1);
    }

    private static void lapsesByOneAbove() {
        LapseMandates book = Books.tree();
        book.urge(4, 1);
        Checks.dueEach("by 4, in how many days", book::lapsesIn, -1, -1, -1, -1, 4, 4, -1);
        book.pass(1);
        book.need(1, 1);
        book.urge(1, 1);
        Checks.dueEach("by 1 and 4, in how many days", book::lapsesIn, -1, 4, 4, -1, 3, 3, -1);
        book.need(0, 1);
        book.pass(1);
        book.set(0, 1);
        book.urge(0, 1);
        Checks.dueEach("by 0, 1 and 4, in how many days", book::lapsesIn, 2, 1, 1, 2, 1, 1, -1);
        dueLapse("by one two above", book, 5, 1);
        LapseMandates ladder = Books.ladder();
        ladder.need(0, 1);
        ladder.urge(0, 1);
        dueLapse("by one eleven above", ladder, 11, 4);
    }

    private static void soonestOfSeveral() {
        LapseMandates book = Books.chain(1);
        book.set(0, 10);
        book.urge(2, 1);
        book.pass(2);
        book.urge(2, 1);
        book.pass(1);
        book.urge(1, 1);
        Checks.dueEach("in how many days", book::lapsesIn, -1, 11, 8);
        book.approve(0, 0);
        Checks.dueEach("without the first, in how many days", book::lapsesIn, -1, 11, 10);
        book.approve(0, 0);
        Checks.dueEach("by the one above alone, in how many days", book::lapsesIn, -1, 11, 11);
        dueLapse("with the one above", book, 2, 11);
        LapseMandates order = Books.chain(1);
        order.urge(1, 1);
        order.pass(1);
        order.urge(2, 1);
        dueLapse("the first of two, which is that of the one above", order, 2, 3);
    }

    private static void wouldNotLapse() {
        LapseMandates book = Books.tree();
        book.urge(0, 1);
        book.urge(5, 1);
        book.spend(4, 1);
        book.spend(2, 1);
        Checks.dueEach("nothing is open, only requests wait:", book::lapsesIn,
                -1, -1, -1, -1, -1, -1, LapseMandates.NONE);
        book.urge(3, 1);
        Checks.due("its own is open", book.lapsesIn(3), 4);
        Checks.due("not by one under it", book.lapsesIn(0), -1);
        Checks.due("not by one beside it", book.lapsesIn(1), -1);
        book.approve(2, 0);
        Checks.due("it is done with", book.lapsesIn(3), -1);
        book.undo();
        Checks.due("undone, it is open", book.lapsesIn(3), 4);
        LapseMandates two = Books.chain(2);
        two.urge(2, 1);
        two.approve(0, 0);
        Checks.due("one approval of two", two.lapsesIn(2), 4);
        Checks.due("a new one", Books.one(1, 1, 0).lapsesIn(0), -1);
    }

    private static void lapsedBefore() {
        LapseMandates book = Books.chain(1);
        book.urge(1, 1);
        book.urge(2, 1);
        book.withdraw(2);
        Checks.dueEach("2 was withdrawn:", book::lapsesIn, -1, 4, -1);
        book.withdraw(1);
        Checks.dueEach("its own are open, but it has lapsed:", book::lapsesIn, -1, -1, -1);
        book.urge(0, 1);
        book.pass(3);
        Checks.due("it is to come", book.lapsesIn(0), 1);
        book.pass(1);
        Checks.dueEach("lapsed by days:", book::lapsesIn, -1, -1, -1);
    }

    private static void lapsesInNoMandate() {
        LapseMandates empty = new LapseMandates();
        Checks.dueThrows(empty, "lapsesIn of", Checks.OUT_OF_BOUNDS, empty::lapsesIn, -1, 0);
        LapseMandates book = Books.chain(1);
        book.urge(2, 1);
        Checks.dueThrows(book, "lapsesIn of", Checks.OUT_OF_BOUNDS, book::lapsesIn,
                Checks.MIN, -1, 3, 11, 12, Checks.MAX);
        Checks.due("of the last one", book.lapsesIn(2), 4);
    }

    // ---- Promise 27

    private static void usedShare() {
        String where = "Promise 27";
        Checks.test(where, "Returns its sum, as a double, divided by its limit for a period.",
                WouldBeEdgesTest::shares);
        Checks.test(where, "Returns how much of its limit a mandate has used.", WouldBeEdgesTest::edgesOfShares);
        Checks.test(where, "Throws `IndexOutOfBoundsException` if there is no such mandate",
                WouldBeEdgesTest::usedShareNoMandate);
    }

    private static void shares() {
        LapseMandates book = Books.chain(0);
        book.spend(2, 100);
        book.spend(1, 50);
        book.spend(0, 183);
        Checks.dueShare("of the topmost", book.usedShare(0), 333.0 / 1000.0);
        Checks.dueShare("of the one between", book.usedShare(1), 150.0 / 600.0);
        Checks.dueShare("of the last", book.usedShare(2), 100.0 / 400.0);
        book.limit(2, 200, 300);
        Checks.dueShare("not rounded", book.usedShare(2), 100.0 / 300.0);
        book.withdraw(0);
        Checks.dueShare("of one that lapsed", book.usedShare(0), 333.0 / 1000.0);
        book.pass(9);
        Checks.dueShare("on the last day of the period", book.usedShare(2), 100.0 / 300.0);
        book.pass(1);
        Checks.dueShare("on the first day of the next", book.usedShare(2), 0.0);
    }

    private static void edgesOfShares() {
        LapseMandates book = Books.one(9999, 9999, 0);
        Checks.dueShare("nothing", book.usedShare(0), 0.0);
        book.spend(0, 1);
        Checks.dueShare("the least", book.usedShare(0), 1.0 / 9999.0);
        book.spend(0, 9998);
        Checks.dueShare("all of it", book.usedShare(0), 1.0);
        book.limit(0, 9999, 9998);
        Checks.dueShare("above its limit", book.usedShare(0), 9999.0 / 9998.0);
        book.limit(0, 9999, 1);
        Checks.dueShare("the greatest", book.usedShare(0), 9999.0);
    }

    private static void usedShareNoMandate() {
        LapseMandates empty = new LapseMandates();
        Checks.dueThrows(empty, "usedShare of", Checks.OUT_OF_BOUNDS, number -> (long) empty.usedShare(number),
                -1, 0);
        LapseMandates book = Books.chain(0);
        Checks.dueThrows(book, "usedShare of", Checks.OUT_OF_BOUNDS, number -> (long) book.usedShare(number),
                Checks.MIN, -1, 3, 11, 12, Checks.MAX);
        Checks.dueShare("of the last one", book.usedShare(2), 0.0);
    }

    // ---- Promise 28

    private static void digest() {
        String where = "Promise 28";
        Checks.test(where, "The hash starts at 2543.", WouldBeEdgesTest::digestOfANewOne);
        Checks.test(where, "the hash becomes 31 * hash + v, in long arithmetic with overflow.",
                WouldBeEdgesTest::digestCountedByHand);
        Checks.test(where, "count(0) to count(11); the settings 0 and 1;", WouldBeEdgesTest::digestOfSettings);
        Checks.test(where, "for each mandate its properties 0 to 11, whyNot of 100, room of both kinds (not urgent "
                + "first), under, narrowest, lapsesIn", WouldBeEdgesTest::digestOfMandates);
        Checks.test(where, "and the bits of usedShare (as Double.doubleToLongBits);", WouldBeEdgesTest::digestOfShares);
        Checks.test(where, "for each request its properties 0 to 6;", WouldBeEdgesTest::digestOfRequests);
        Checks.test(where, "for each person the numbers 0 to 3;", WouldBeEdgesTest::digestOfPersons);
        Checks.test(where, "the length of the buffer and each of its character codes.",
                WouldBeEdgesTest::digestOfTheBuffer);
        Checks.test(where, "Computes a hash of the whole state.", WouldBeEdgesTest::digestOfAFullOne);
    }

    /** Of a new one: 12 counts, 2 settings, and 32 numbers of persons. */
    private static long hashAheadOfTheBuffer() {
        long hash = 2543;
        for (int value = 0; value < 46; value++) {
            hash = 31 * hash + (value == 12 ? 3 : value == 13 ? 4 : 0);
        }
        return hash;
    }

    private static void digestOfANewOne() {
        LapseMandates book = new LapseMandates();
        Checks.due("digest()", book.digest(), 31 * hashAheadOfTheBuffer());
        Checks.due("digest(), counted outside of Java", book.digest(), HASH_OF_A_NEW_ONE);
    }

    private static void digestCountedByHand() {
        LapseMandates book = Books.one(500, 900, 0);
        book.spend(0, 300);
        Checks.write(book, "s~");
        long[] values = {1, 1, 0, 0, 0, 300, 300, 1, 0, 0, 0, 2, 3, 4,
            -1, 0, 500, 900, 0, 1, 300, 300, 1, 0, 0, -1,
            0, 500, 250, 1, 0, -1, 0x3FD5555555555555L, 1, 300};
        long hash = 2543;
        for (long value : values) {
            hash = 31 * hash + value;
        }
        for (int value = 2; value < 32; value++) {
            hash = 31 * hash;
        }
        hash = 31 * (31 * (31 * hash + 2) + 's') + '~';
        Checks.due("digest()", book.digest(), hash);
        Checks.due("digest(), counted outside of Java", book.digest(), HASH_OF_A_SMALL_ONE);
    }

    private static void digestOfSettings() {
        LapseMandates book = new LapseMandates();
        int[][] values = {{0, 1}, {30, 12}, {30, 1}, {0, 12}, {7, 8}};
        for (int[] value : values) {
            book.set(0, value[0]);
            book.set(1, value[1]);
            Checks.due("digest()", book.digest(), Books.digestOf(book, ""));
        }
        book.pass(60);
        Checks.due("digest(), 60 days on", book.digest(), Books.digestOf(book, ""));
    }

    private static void digestOfMandates() {
        LapseMandates book = Books.tree();
        book.spend(5, 100);
        book.urge(4, 50);
        book.limit(6, 99, 98);
        Checks.due("digest()", book.digest(), Books.digestOf(book, ""));
        Checks.due("above each, as 100 is asked for", book.whyNot(6, 100), 2);
        book.pass(4);
        Checks.due("digest(), two lapsed", book.digest(), Books.digestOf(book, ""));
        LapseMandates hundred = Books.one(100, 199, 0);
        hundred.spend(0, 99);
        Checks.due("digest(), 100 are left", hundred.digest(), Books.digestOf(hundred, ""));
        hundred.spend(0, 1);
        Checks.due("digest(), 99 are left", hundred.digest(), Books.digestOf(hundred, ""));
    }

    /** 0, the least, less than 1, 1, more than 1, and the greatest share; of 1 and more, all exponents. */
    private static void digestOfShares() {
        int[] sums = {0, 1, 2, 3, 4999, 5000, 8191, 8192, 9998, 9999};
        int[] limits = {1, 2, 3, 7, 4096, 4097, 8192, 9998, 9999};
        for (int sum : sums) {
            LapseMandates book = Books.one(9999, 9999, 0);
            if (sum > 0) {
                book.spend(0, sum);
            }
            for (int index = 0; index < 5; index++) {
                book.limit(0, 1, limits[index]);
                Checks.due("digest(), " + sum + " of " + limits[index], book.digest(), Books.digestOf(book, ""));
            }
            LapseMandates other = Books.one(9999, 9999, 0);
            if (sum > 0) {
                other.spend(0, sum);
            }
            for (int index = 5; index < limits.length; index++) {
                other.limit(0, 1, limits[index]);
                Checks.due("digest(), " + sum + " of " + limits[index], other.digest(), Books.digestOf(other, ""));
            }
        }
    }

    private static void digestOfRequests() {
        LapseMandates book = Books.chain(2);
        Checks.write(book, "s2:1;u2:2;s1:3;u1:4;s0:5;u0:6");
        book.run();
        Checks.due("six wait", book.digest(), Books.digestOf(book, ""));
        book.approve(1, 0);
        book.takeBack(0);
        Checks.due("five wait", book.digest(), Books.digestOf(book, ""));
        book.withdraw(0);
        Checks.due("three wait", book.digest(), Books.digestOf(book, ""));
    }

    private static void digestOfPersons() {
        LapseMandates book = new LapseMandates();
        book.give(-1, 7, 90, 900, 0);
        book.give(0, 0, 90, 900, 1);
        book.give(1, 6, 90, 900, 2);
        book.spend(0, 70);
        book.spend(2, 60);
        book.spend(1, 50);
        book.approve(0, 7);
        Checks.due("digest()", book.digest(), Books.digestOf(book, ""));
        book.approve(0, 0);
        book.approve(0, 7);
        Checks.due("digest(), both are made", book.digest(), Books.digestOf(book, ""));
    }

    private static void digestOfTheBuffer() {
        LapseMandates book = new LapseMandates();
        long empty = book.digest();
        for (int length = 1; length <= 60; length++) {
            book.append(FULL.charAt(length - 1));
            long hash = 31 * hashAheadOfTheBuffer() + length;
            for (int index = 0; index < length; index++) {
                hash = 31 * hash + FULL.charAt(index);
            }
            Checks.due("digest(), " + length, book.digest(), hash);
        }
        book.clearBuffer();
        Checks.due("digest(), cleared", book.digest(), empty);
        book.append(126);
        book.append(33);
        Checks.due("the last and the first sign", book.digest(), Books.digestOf(book, "~!"));
    }

    private static void digestOfAFullOne() {
        LapseMandates book = Books.full();
        Checks.due("digest()", book.digest(), Books.digestOf(book, FULL));
        LapseMandates lapsed = Books.full();
        lapsed.approve(4, 3);
        lapsed.withdraw(1);
        lapsed.pass(14);
        lapsed.set(0, 30);
        Checks.due("digest(), when most have lapsed", lapsed.digest(), Books.digestOf(lapsed, FULL));
    }
}
