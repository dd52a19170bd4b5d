/**
 * What the document says of texts, undo and exceptions (Terms, and promises 12 to 16), sentence by
 * sentence: each that names an edge has a test of its own.
 */
public final class TextEdgesTest {
    private static final String FULL = "s0:1;u1:2;s2:3;u3:4;s4:5;u5:6;s6:7;u7:8;s8:9;u9:1;s10:2;u11:";
    private static final String ONES = "s0:1;s0:1;s0:1;s0:1;s0:1;s0:1;s0:1;s0:1;s0:1;s0:1;s0:1;s0:";

    private TextEdgesTest() {
    }

    public static void main(String[] args) {
        inputText();
        undoTerms();
        exceptions();
        append();
        clearBuffer();
        firstError();
        run();
        undo();
        Checks.close();
    }

    // ---- Terms: input text

    private static void inputText() {
        String where = "Terms, input text";
        Checks.test(where, "The buffer has at most 60 characters.", TextEdgesTest::atMostSixty);
        Checks.test(where, "A row of spendings as a text is one or more spendings with \";\" between them",
                TextEdgesTest::oneOrMore);
        Checks.test(where, "each \"s\" (asked for) or \"u\" (urgent)", TextEdgesTest::kinds);
        Checks.test(where, "the number of a mandate, 0 to 11", TextEdgesTest::mandateNumbers);
        Checks.test(where, "\":\", and an amount, 1 to 9999.", TextEdgesTest::amounts);
        Checks.test(where, "Numbers are without leading zeros.", TextEdgesTest::leadingZeros);
        Checks.test(where, "The buffer is read from left to right;", TextEdgesTest::readFromTheLeft);
        Checks.test(where, "a character is a syntax error if no row of spendings, of any length, begins with the "
                + "characters before it and this character.", TextEdgesTest::errorOfEachSign);
        Checks.test(where, "of any length", TextEdgesTest::beginsALongerRow);
    }

    private static LapseMandates with(String signs) {
        LapseMandates book = new LapseMandates();
        Checks.write(book, signs);
        return book;
    }

    /** Where the first error is; a complete row can be run, any other text cannot. */
    private static void dueText(String signs, int error, boolean isComplete) {
        LapseMandates book = with(signs);
        Checks.due("firstError() of " + signs, book.firstError(), error);
        if (isComplete) {
            Checks.due("run() of " + signs, book.run(), 0);
        } else {
            Checks.dueThrow(book, "run() of " + signs, Checks.ILLEGAL_ARGUMENT, () -> book.run());
            Checks.due("the length of " + signs, book.clearBuffer(), signs.length());
        }
    }

    private static void dueRow(String signs) {
        dueText(signs, signs.length(), true);
    }

    private static void dueBeginning(String signs) {
        dueText(signs, signs.length(), false);
    }

    private static void dueWrong(String signs, int error) {
        dueText(signs, error, false);
    }

    private static void atMostSixty() {
        LapseMandates book = new LapseMandates();
        for (int length = 1; length <= 60; length++) {
            Checks.due("append", book.append(FULL.charAt(length - 1)), length);
        }
        Checks.dueThrow(book, "append, the 61st", Checks.ILLEGAL_STATE, () -> book.append('1'));
        Checks.due("the 61st is not there", book.firstError(), 60);
        Checks.due("clearBuffer()", book.clearBuffer(), 60);
    }

    private static void oneOrMore() {
        dueBeginning("");
        dueRow("s0:1");
        dueRow("s0:1;u1:2");
        dueRow(ONES + "9");
        dueBeginning("s0:1;");
        dueWrong(";", 0);
        dueWrong(";s0:1", 0);
        dueWrong("s0:1;;s0:1", 5);
        dueWrong("s0:1s0:1", 4);
        dueWrong("s0:1,s0:1", 4);
    }

    private static void kinds() {
        dueRow("s1:1");
        dueRow("u1:1");
        dueWrong("S1:1", 0);
        dueWrong("U1:1", 0);
        dueWrong("1:1", 0);
        dueWrong("su1:1", 1);
        dueWrong("s1:1;1:1", 5);
        LapseMandates book = Books.one(10, 99, 1);
        Checks.write(book, "s0:5;u0:5");
        Checks.due("run()", book.run(), 2);
        Checks.due("the first is not urgent", book.request(0, 3), 0);
        Checks.due("the second is", book.request(1, 3), 1);
    }

    private static void mandateNumbers() {
        for (int number = 0; number <= 11; number++) {
            dueRow("s" + number + ":1");
            LapseMandates book = Books.twelve();
            Checks.write(book, "u" + number + ":7");
            Checks.due("run() by " + number, book.run(), 1);
            Checks.due("by " + number, book.mandate(number, 7), 7);
        }
        for (int number = 12; number <= 19; number++) {
            dueWrong("s" + number + ":1", 2);
        }
        dueWrong("s20:1", 2);
        dueWrong("s99:1", 2);
        dueWrong("s100:1", 3);
        dueWrong("s110:1", 3);
        dueWrong("s-1:1", 1);
        dueWrong("s:1", 1);
    }

    private static void amounts() {
        int[] amounts = {1, 9, 10, 99, 100, 999, 1000, 4999};
        for (int amount : amounts) {
            LapseMandates book = Books.twelve();
            Checks.write(book, "u11:" + amount + ";s0:" + (2 * amount + 1));
            Checks.due("run() of " + amount, book.run(), 2);
            Checks.due("by 11", book.mandate(11, 7), amount);
            Checks.due("by 0", book.mandate(0, 7), 2 * amount + 1);
        }
        dueRow("s0:9999");
        dueWrong("s0:10000", 7);
        dueWrong("s0:99990", 7);
        dueWrong("s0:0", 3);
        dueWrong("s0:-1", 3);
        dueWrong("s0:;", 3);
        dueWrong("s01", 2);
        dueWrong("s0;1", 2);
        dueWrong("s11;1", 3);
        dueBeginning("s0:");
    }

    private static void leadingZeros() {
        dueRow("s0:1");
        dueRow("s10:10");
        dueWrong("s00:1", 2);
        dueWrong("s01:1", 2);
        dueWrong("s011:1", 2);
        dueWrong("s0:01", 3);
        dueWrong("s0:0001", 3);
    }

    private static void readFromTheLeft() {
        dueWrong("xs0:1", 0);
        dueWrong("s0:1;s0:0;x", 8);
        dueWrong("s0:1x;;;", 4);
        dueWrong("sss", 1);
        dueWrong("u2:3;u2:3;u12:3;u", 12);
        dueWrong(ONES + "1x", 59);
    }

    /** What each place takes, over all signs that the buffer takes. */
    private static void errorOfEachSign() {
        dueSigns("", "su");
        dueSigns("s", "0123456789");
        dueSigns("u0", ":");
        dueSigns("u1", ":01");
        for (int digit = 2; digit <= 9; digit++) {
            dueSigns("s" + digit, ":");
        }
        dueSigns("s10", ":");
        dueSigns("s11", ":");
        dueSigns("s0:", "123456789");
        dueSigns("s11:", "123456789");
        dueSigns("s0:1", "0123456789;");
        dueSigns("s0:10", "0123456789;");
        dueSigns("s0:102", "0123456789;");
        dueSigns("s0:1029", ";");
        dueSigns("s0:9999", ";");
        dueSigns("s0:1;", "su");
        dueSigns("s0:1;u", "0123456789");
    }

    private static void dueSigns(String before, String taken) {
        for (int code = 33; code <= 126; code++) {
            LapseMandates book = with(before);
            book.append(code);
            int error = before.length() + (taken.indexOf(code) >= 0 ? 1 : 0);
            Checks.due("firstError() of " + before + (char) code, book.firstError(), error);
        }
    }

    private static void beginsALongerRow() {
        dueBeginning(FULL);
        dueBeginning(ONES + "1;");
        dueRow(ONES + "10");
    }

    // ---- Terms: undo

    private static void undoTerms() {
        String where = "Terms, undo";
        Checks.test(where, "Each method that is marked \"undoable\" and does not throw an exception saves the state "
                + "from before it", TextEdgesTest::undoableSaves);
        Checks.test(where, "Each method that is marked \"undoable\"", TextEdgesTest::othersSaveNothing);
        Checks.test(where, "and does not throw an exception", TextEdgesTest::whatThrowsSavesNothing);
        Checks.test(where, "(also if it changes nothing)", TextEdgesTest::savesIfNothingChanges);
        Checks.test(where, "all, also what is counted so far, but the buffer and the saved states.",
                TextEdgesTest::savesAllButTheBuffer);
        Checks.test(where, "At most 6 states are saved; the oldest one is dropped first.",
                TextEdgesTest::savesAtMostSix);
    }

    private static void dueSaved(String name, LapseMandates book, Checks.Call call) {
        long before = book.digest();
        call.answer();
        Checks.due(name + ": saved states", book.count(11), 5);
        Checks.due(name + ": undo()", book.undo(), 4);
        Checks.due(name + ": as before", book.digest(), before);
    }

    private static void undoableSaves() {
        LapseMandates book = Books.small();
        dueSaved("give", book, () -> book.give(1, 2, 3, 4, 1));
        dueSaved("withdraw", book, () -> book.withdraw(0));
        dueSaved("limit", book, () -> book.limit(1, 7, 8));
        dueSaved("need", book, () -> book.need(1, 3));
        dueSaved("spend", book, () -> book.spend(0, 9));
        dueSaved("urge", book, () -> book.urge(1, 9));
        dueSaved("approve, urgent", book, () -> book.approve(0, 0));
        dueSaved("approve", book, () -> book.approve(1, 0));
        dueSaved("takeBack", book, () -> book.takeBack(1));
        dueSaved("pass", book, () -> book.pass(13));
        dueSaved("set(0)", book, () -> book.set(0, 0));
        dueSaved("set(1)", book, () -> book.set(1, 1));
    }

    private static void othersSaveNothing() {
        LapseMandates book = Books.small();
        book.append('s');
        book.firstError();
        book.clearBuffer();
        Books.askAll(book);
        Checks.due("saved states", book.count(11), 4);
        for (int left = 3; left >= 0; left--) {
            Checks.due("undo()", book.undo(), left);
        }
    }

    private static void whatThrowsSavesNothing() {
        LapseMandates book = Books.small();
        Checks.dueThrow(book, "give", Checks.ILLEGAL_STATE, () -> book.give(0, 0, 101, 1, 0));
        Checks.dueThrow(book, "withdraw", Checks.OUT_OF_BOUNDS, () -> book.withdraw(2));
        Checks.dueThrow(book, "limit", Checks.ILLEGAL_STATE, () -> book.limit(0, 1, 1));
        Checks.dueThrow(book, "need", Checks.ILLEGAL_ARGUMENT, () -> book.need(0, 4));
        Checks.dueThrow(book, "spend", Checks.ILLEGAL_STATE, () -> book.spend(0, 101));
        Checks.dueThrow(book, "urge", Checks.ILLEGAL_STATE, () -> book.urge(0, 51));
        Checks.dueThrow(book, "approve", Checks.ILLEGAL_STATE, () -> book.approve(0, 1));
        Checks.dueThrow(book, "takeBack", Checks.ILLEGAL_STATE, () -> book.takeBack(0));
        Checks.dueThrow(book, "pass", Checks.ILLEGAL_ARGUMENT, () -> book.pass(0));
        Checks.dueThrow(book, "set", Checks.ILLEGAL_ARGUMENT, () -> book.set(0, 31));
        Checks.dueThrow(book, "run", Checks.ILLEGAL_ARGUMENT, () -> book.run());
        Checks.due("saved states", book.count(11), 4);
        book.undo();
        Checks.due("the one before spend", book.count(2), 1);
    }

    private static void savesIfNothingChanges() {
        LapseMandates book = Books.small();
        dueSaved("limit, the same", book, () -> book.limit(1, 100, 1000));
        dueSaved("need, the same", book, () -> book.need(1, 1));
        dueSaved("set(0), the same", book, () -> book.set(0, 3));
        dueSaved("set(1), the same", book, () -> book.set(1, 4));
        Checks.write(book, "s1:101");
        book.run();
        Checks.due("run of none: saved states", book.count(11), 5);
        Checks.due("run of none: undo()", book.undo(), 4);
    }

    private static void savesAllButTheBuffer() {
        LapseMandates book = Books.small();
        book.limit(1, 5, 1000);
        Checks.write(book, "s0:1;x");
        LapseMandates before = Books.small();
        before.limit(1, 5, 1000);
        Checks.write(before, "s0:1;x");
        Checks.due("a request has failed", book.approve(1, 0), 2);
        book.undo();
        Checks.due("what has failed so far", book.count(9), 0);
        Checks.due("approvals so far", book.person(0, 2), 0);
        Checks.due("a mandate lapses as it is late", book.pass(20), 1);
        book.undo();
        Checks.due("what lapsed so far", book.count(10), 0);
        Checks.due("the day", book.count(3), 0);
        book.urge(0, 50);
        book.undo();
        Checks.due("urgent ones so far", book.count(8), 1);
        Checks.due("all, and the buffer is as it is now", book.digest(), before.digest());
        book.append('y');
        Checks.due("the saved states are not brought back", book.undo(), 4);
        Checks.due("the buffer is as it is now", book.clearBuffer(), 7);
        Checks.due("the limit is as it was", book.mandate(1, 2), 100);
    }

    private static void savesAtMostSix() {
        LapseMandates book = Books.one(100, 1000, 0);
        for (int amount = 1; amount <= 20; amount++) {
            book.spend(0, amount);
            Checks.due("saved states", book.count(11), Math.min(6, amount + 1));
        }
        int spent = 210;
        for (int amount = 20; amount > 14; amount--) {
            spent -= amount;
            Checks.due("undo()", book.undo(), amount - 15);
            Checks.due("spent", book.count(5), spent);
        }
        Checks.dueThrow(book, "undo(), the 7th", Checks.ILLEGAL_STATE, () -> book.undo());
        for (int amount = 1; amount <= 7; amount++) {
            book.spend(0, amount);
        }
        for (int left = 5; left >= 0; left--) {
            Checks.due("undo() again", book.undo(), left);
        }
        Checks.due("spent", book.count(5), 106);
    }

    // ---- Terms: exceptions

    private static void exceptions() {
        String where = "Terms, exceptions";
        Checks.test(where, "A call that throws an exception changes nothing.", TextEdgesTest::throwingChangesNothing);
        Checks.test(where, "If several exceptions apply, the one that is named first in the throws clause is thrown.",
                TextEdgesTest::firstNamedIsThrown);
        Checks.test("What it is", "An object is used for at most 512 calls after it has been made;",
                TextEdgesTest::works512Calls);
    }

    /** Also the six saved states are as before, which only undo shows. */
    private static void throwingChangesNothing() {
        LapseMandates book = Books.full();
        throwBounds(book);
        throwArguments(book);
        throwStates(book);
        LapseMandates same = Books.full();
        Checks.due("digest()", book.digest(), same.digest());
        for (int left = 5; left >= 0; left--) {
            Checks.due("undo()", book.undo(), left);
            same.undo();
            Checks.due("digest(), undone", book.digest(), same.digest());
        }
        Checks.dueThrow(book, "undo() of nothing", Checks.ILLEGAL_STATE, () -> book.undo());
    }

    private static void throwBounds(LapseMandates book) {
        int kind = Checks.OUT_OF_BOUNDS;
        Checks.dueThrow(book, "give", kind, () -> book.give(12, 0, 1, 1, 0));
        Checks.dueThrow(book, "withdraw", kind, () -> book.withdraw(12));
        Checks.dueThrow(book, "limit", kind, () -> book.limit(12, 1, 1));
        Checks.dueThrow(book, "need", kind, () -> book.need(12, 1));
        Checks.dueThrow(book, "spend", kind, () -> book.spend(12, 1));
        Checks.dueThrow(book, "urge", kind, () -> book.urge(12, 1));
        Checks.dueThrow(book, "approve", kind, () -> book.approve(6, 0));
        Checks.dueThrow(book, "takeBack", kind, () -> book.takeBack(6));
        Checks.dueThrow(book, "set", kind, () -> book.set(2, 1));
        Checks.dueThrow(book, "mandate", kind, () -> book.mandate(12, 0));
        Checks.dueThrow(book, "request", kind, () -> book.request(6, 0));
        Checks.dueThrow(book, "person", kind, () -> book.person(8, 0));
        Checks.dueThrow(book, "setting", kind, () -> book.setting(2));
        Checks.dueThrow(book, "whyNot", kind, () -> book.whyNot(12, 1));
        Checks.dueThrow(book, "room", kind, () -> book.room(12, true));
        Checks.dueThrow(book, "under", kind, () -> book.under(12));
        Checks.dueThrow(book, "narrowest", kind, () -> book.narrowest(12));
        Checks.dueThrow(book, "lapsesIn", kind, () -> book.lapsesIn(12));
        Checks.dueThrow(book, "usedShare", kind, () -> (long) book.usedShare(12));
    }

    private static void throwArguments(LapseMandates book) {
        int kind = Checks.ILLEGAL_ARGUMENT;
        Checks.dueThrow(book, "give", kind, () -> book.give(0, 8, 1, 1, 0));
        Checks.dueThrow(book, "limit", kind, () -> book.limit(0, 0, 1));
        Checks.dueThrow(book, "need", kind, () -> book.need(0, 4));
        Checks.dueThrow(book, "spend", kind, () -> book.spend(0, 0));
        Checks.dueThrow(book, "urge", kind, () -> book.urge(0, 0));
        Checks.dueThrow(book, "pass", kind, () -> book.pass(0));
        Checks.dueThrow(book, "set", kind, () -> book.set(1, 0));
        Checks.dueThrow(book, "append", kind, () -> book.append(32));
        Checks.dueThrow(book, "run", kind, () -> book.run());
        Checks.dueThrow(book, "mandate", kind, () -> book.mandate(0, 12));
        Checks.dueThrow(book, "request", kind, () -> book.request(0, 7));
        Checks.dueThrow(book, "person", kind, () -> book.person(0, 4));
        Checks.dueThrow(book, "count", kind, () -> book.count(12));
        Checks.dueThrow(book, "whyNot", kind, () -> book.whyNot(0, 0));
    }

    private static void throwStates(LapseMandates book) {
        int kind = Checks.ILLEGAL_STATE;
        Checks.dueThrow(book, "give", kind, () -> book.give(0, 0, 1, 1, 0));
        Checks.dueThrow(book, "limit", kind, () -> book.limit(0, 1, 1));
        Checks.dueThrow(book, "spend, refused", kind, () -> book.spend(0, 901));
        Checks.dueThrow(book, "spend, the 7th", kind, () -> book.spend(1, 1));
        Checks.dueThrow(book, "urge, too great", kind, () -> book.urge(0, 451));
        Checks.dueThrow(book, "urge, the 7th", kind, () -> book.urge(1, 1));
        Checks.dueThrow(book, "approve", kind, () -> book.approve(0, 7));
        Checks.dueThrow(book, "takeBack", kind, () -> book.takeBack(2));
        Checks.dueThrow(book, "append", kind, () -> book.append('1'));
    }

    private static void firstNamedIsThrown() {
        LapseMandates book = Books.full();
        int bounds = Checks.OUT_OF_BOUNDS;
        Checks.dueThrow(book, "give: 1, 2 and 3", bounds, () -> book.give(12, 8, 0, 0, 4));
        Checks.dueThrow(book, "give: 1 and 3", bounds, () -> book.give(-2, 0, 1, 1, 0));
        Checks.dueThrow(book, "limit: 1 and 2", bounds, () -> book.limit(12, 0, 10000));
        Checks.dueThrow(book, "need: 1 and 2", bounds, () -> book.need(-1, 4));
        Checks.dueThrow(book, "spend: 1 and 2", bounds, () -> book.spend(12, 0));
        Checks.dueThrow(book, "urge: 1 and 2", bounds, () -> book.urge(12, 10000));
        Checks.dueThrow(book, "set: 1 and 2", bounds, () -> book.set(2, -1));
        Checks.dueThrow(book, "mandate: 1 and 2", bounds, () -> book.mandate(12, 12));
        Checks.dueThrow(book, "request: 1 and 2", bounds, () -> book.request(6, 7));
        Checks.dueThrow(book, "person: 1 and 2", bounds, () -> book.person(8, 4));
        Checks.dueThrow(book, "whyNot: 1 and 2", bounds, () -> book.whyNot(12, 0));
        Checks.dueThrow(book, "approve: no such request, nor a person who can", bounds, () -> book.approve(6, 7));
        Checks.dueThrow(book, "approve: no such person", bounds, () -> book.approve(0, 8));
        book.withdraw(1);
        Books.passTo(book, 4990);
        int argument = Checks.ILLEGAL_ARGUMENT;
        Checks.dueThrow(book, "give: 2 and 3", argument, () -> book.give(1, 8, 1, 1, 0));
        Checks.dueThrow(book, "limit: 2 and 3", argument, () -> book.limit(1, 0, 1));
        Checks.dueThrow(book, "need: 2 and 3", argument, () -> book.need(1, 4));
        Checks.dueThrow(book, "spend: 2 and 3", argument, () -> book.spend(1, 10000));
        Checks.dueThrow(book, "urge: 2 and 3", argument, () -> book.urge(1, 0));
        Checks.dueThrow(book, "pass: 2 and 3", argument, () -> book.pass(61));
        Checks.dueThrow(book, "append: 2 and 3", argument, () -> book.append(127));
    }

    private static void works512Calls() {
        LapseMandates book = Books.one(9999, 9999, 1);
        for (int turn = 0; turn < 127; turn++) {
            Checks.due("spend()", book.spend(0, turn + 1), 1);
            Checks.due("takeBack()", book.takeBack(0), turn + 1);
            Checks.due("pass()", book.pass(1), 0);
            Checks.due("set()", book.set(0, turn % 31), turn == 0 ? 3 : (turn - 1) % 31);
        }
        Checks.due("undo(), the 510th call", book.undo(), 5);
        Checks.due("count(3), the 511th call", book.count(3), 127);
        Checks.due("setting(0), the 512th call", book.setting(0), 125 % 31);
    }

    // ---- Promise 12

    private static void append() {
        String where = "Promise 12";
        Checks.test(where, "Appends a character to the buffer.", TextEdgesTest::appendsBehind);
        Checks.test(where, "`code`: the character code, 33 to 126", TextEdgesTest::appendCodes);
        Checks.test(where, "Returns the new length of the buffer.", TextEdgesTest::appendAnswers);
        Checks.test(where, "Throws `IllegalArgumentException` if code is not 33 to 126",
                TextEdgesTest::appendOutOfRange);
        Checks.test(where, "Throws `IllegalStateException` if the buffer has 60 characters",
                TextEdgesTest::appendToAFullOne);
    }

    private static void appendsBehind() {
        LapseMandates book = Books.one(100, 100, 0);
        Checks.write(book, "s0:12");
        Checks.due("run()", book.run(), 1);
        Checks.due("in order", book.count(5), 12);
        Checks.write(book, "s0:3");
        Checks.due("run() again", book.run(), 1);
        Checks.due("at the beginning again", book.count(5), 15);
    }

    private static void appendCodes() {
        for (int code = 33; code <= 126; code++) {
            LapseMandates book = new LapseMandates();
            Checks.due("append " + code, book.append(code), 1);
            Checks.due("append " + code + " again", book.append(code), 2);
            String signs = String.valueOf((char) code) + (char) code;
            Checks.due("digest() with " + signs, book.digest(), Books.digestOf(book, signs));
        }
    }

    private static void appendAnswers() {
        LapseMandates book = new LapseMandates();
        for (int length = 1; length <= 60; length++) {
            Checks.due("append", book.append('s'), length);
        }
        book.clearBuffer();
        Checks.due("append to an empty one", book.append('s'), 1);
    }

    private static void appendOutOfRange() {
        LapseMandates book = with("s");
        Checks.dueThrows(book, "append", Checks.ILLEGAL_ARGUMENT, book::append,
                Checks.MIN, -1, 0, 32, 127, 128, 33 + 256, 33 + 65536, Checks.MAX);
        LapseMandates full = with(FULL);
        Checks.dueThrows(full, "append to a full one", Checks.ILLEGAL_ARGUMENT, full::append,
                Checks.MIN, 32, 127, Checks.MAX);
    }

    private static void appendToAFullOne() {
        LapseMandates book = with(FULL.substring(0, 59));
        Checks.due("the 60th", book.append('z'), 60);
        Checks.dueThrows(book, "the 61st", Checks.ILLEGAL_STATE, book::append, 33, 's', 126);
        book.clearBuffer();
        Checks.due("the first", book.append(33), 1);
    }

    // ---- Promise 13

    private static void clearBuffer() {
        String where = "Promise 13";
        Checks.test(where, "Clears the buffer.", TextEdgesTest::clears);
        Checks.test(where, "Returns the length that it had.", TextEdgesTest::clearAnswers);
    }

    private static void clears() {
        LapseMandates book = Books.small();
        long before = book.digest();
        Checks.write(book, "x");
        book.clearBuffer();
        Checks.due("nothing but the buffer", book.digest(), before);
        Checks.due("no error is left", book.firstError(), 0);
        Checks.due("no saved state", book.count(11), 4);
    }

    private static void clearAnswers() {
        Checks.due("empty", new LapseMandates().clearBuffer(), 0);
        Checks.due("one", with("x").clearBuffer(), 1);
        LapseMandates full = with(FULL);
        Checks.due("full", full.clearBuffer(), 60);
        Checks.due("empty again", full.clearBuffer(), 0);
    }

    // ---- Promise 14

    private static void firstError() {
        String where = "Promise 14";
        Checks.test(where, "Finds the first syntax error of the buffer.", TextEdgesTest::findsTheFirst);
        Checks.test(where, "Returns the index of the first character that is a syntax error;",
                TextEdgesTest::errorIndices);
        Checks.test(where, "the length of the buffer if there is none.", TextEdgesTest::noErrors);
    }

    private static void findsTheFirst() {
        LapseMandates book = with("s0:1;s99:0;");
        long before = book.digest();
        Checks.due("of two errors", book.firstError(), 7);
        Checks.due("again", book.firstError(), 7);
        Checks.due("nothing is changed", book.digest(), before);
    }

    private static void errorIndices() {
        for (int index = 0; index < 60; index++) {
            Checks.due("an error at " + index, with(FULL.substring(0, index) + "~").firstError(), index);
            String rest = FULL.substring(index + 1);
            Checks.due("an error among others, at " + index,
                    with(FULL.substring(0, index) + "~" + rest).firstError(), index);
        }
    }

    private static void noErrors() {
        for (int length = 0; length <= 60; length++) {
            Checks.due("the first " + length, with(FULL.substring(0, length)).firstError(), length);
        }
        Checks.due("a complete row of 60", with(ONES + "10").firstError(), 60);
    }

    // ---- Promise 15

    private static void run() {
        String where = "Promise 15";
        Checks.test(where, "Carries out the spendings in the buffer as spend() and urge() do, one after the other,",
                TextEdgesTest::runsAsCallsDo);
        Checks.test(where, "up to the first one whose method would throw an exception,",
                TextEdgesTest::runStopsAtTheFirst);
        Checks.test(where, "and clears the buffer.", TextEdgesTest::runClears);
        Checks.test(where, "Undoable, as one call, also if none is carried out.", TextEdgesTest::runIsUndone);
        Checks.test(where, "Returns how many are carried out.", TextEdgesTest::runAnswers);
        Checks.test(where, "Throws `IllegalArgumentException` if the buffer is not a complete row of spendings",
                TextEdgesTest::runIncomplete);
    }

    private static void runsAsCallsDo() {
        LapseMandates text = Books.tree();
        Checks.write(text, "s5:100;u4:50;s3:7;u0:1;s2:99;s6:100;u6:50");
        Checks.due("run()", text.run(), 7);
        LapseMandates calls = Books.tree();
        calls.spend(5, 100);
        calls.urge(4, 50);
        calls.spend(3, 7);
        calls.urge(0, 1);
        calls.spend(2, 99);
        calls.spend(6, 100);
        calls.urge(6, 50);
        for (int what = 0; what < 11; what++) {
            Checks.due("count(" + what + ")", text.count(what), calls.count(what));
        }
        for (int number = 0; number < 7; number++) {
            for (int what = 0; what < 12; what++) {
                Checks.due("mandate", text.mandate(number, what), calls.mandate(number, what));
            }
        }
        for (int request = 0; request < 3; request++) {
            for (int what = 0; what < 7; what++) {
                Checks.due("request", text.request(request, what), calls.request(request, what));
            }
        }
    }

    /** The one that would throw is followed by one that would not, which is not carried out. */
    private static void dueStop(String name, LapseMandates book, String signs, int answer, int spent) {
        Checks.write(book, signs);
        Checks.due(name + ": run()", book.run(), answer);
        Checks.due(name + ": spent", book.count(5), spent);
    }

    private static void runStopsAtTheFirst() {
        dueStop("no such mandate", Books.chain(0), "s0:2;s3:1;s0:1", 1, 2);
        dueStop("no mandate at all", new LapseMandates(), "s0:1", 0, 0);
        dueStop("the last number", Books.chain(0), "u0:2;u11:1;s0:1", 1, 2);
        dueStop("above each", Books.chain(0), "s0:2;s2:201;s0:1", 1, 2);
        dueStop("above the period", Books.chain(0), "s2:200;s2:200;s2:1;s0:1", 2, 400);
        dueStop("above that of the topmost", Books.chain(0), "s0:500;s0:500;s2:1;s0:1", 2, 1000);
        dueStop("too great for an urgent one", Books.chain(0), "u2:100;u2:101;s0:1", 1, 100);
        LapseMandates lapsed = Books.chain(0);
        lapsed.withdraw(1);
        dueStop("one that lapsed", lapsed, "s0:2;s2:1;s0:1", 1, 2);
        LapseMandates six = Books.chain(1);
        six.need(0, 0);
        dueStop("six wait", six, "s2:1;u2:2;s2:3;u1:4;s1:5;s1:6;s1:7;s0:9", 6, 6);
        LapseMandates urgent = Books.chain(1);
        urgent.need(0, 0);
        dueStop("six wait, urgent", urgent, "s2:1;s2:2;s2:3;s1:4;s1:5;s1:6;u1:7;s0:9", 6, 0);
    }

    private static void runClears() {
        LapseMandates book = Books.chain(0);
        Checks.write(book, "s0:1");
        book.run();
        Checks.due("all carried out", book.clearBuffer(), 0);
        Checks.write(book, "s0:1;s9:1;s0:1");
        book.run();
        Checks.due("one carried out", book.clearBuffer(), 0);
        Checks.write(book, "s9:1");
        book.run();
        Checks.due("none carried out", book.clearBuffer(), 0);
        Checks.dueThrow(book, "run() again", Checks.ILLEGAL_ARGUMENT, () -> book.run());
    }

    private static void runIsUndone() {
        LapseMandates book = Books.small();
        long before = book.digest();
        Checks.write(book, "s0:1;u0:2;s1:3;u1:4");
        Checks.due("run()", book.run(), 4);
        Checks.due("one saved state", book.count(11), 5);
        Checks.due("undo()", book.undo(), 4);
        Checks.due("as before, without a text", book.digest(), before);
        Checks.write(book, "s9:1");
        Checks.due("run() of none", book.run(), 0);
        Checks.due("one saved state", book.count(11), 5);
        Checks.due("undo()", book.undo(), 4);
        Checks.due("as before, without a text", book.digest(), before);
    }

    private static void runAnswers() {
        LapseMandates book = Books.one(9999, 9999, 0);
        Checks.write(book, ONES + "10");
        Checks.due("twelve", book.run(), 12);
        Checks.due("spent", book.count(5), 21);
        Checks.write(book, "s0:1");
        Checks.due("one", book.run(), 1);
        Checks.write(book, "u0:5000");
        Checks.due("none", book.run(), 0);
        book.need(0, 1);
        Checks.write(book, "s0:1;u0:1");
        Checks.due("what waits is carried out, too", book.run(), 2);
    }

    private static void runIncomplete() {
        String[] texts = {"", "s", "s0", "s1", "s11", "s0:", "s0:1;", "s0:1;u", "s0:1;u1", "s0:1;u1:", "x", "s0:1x",
            "s0:10000", "s0:0", "s12:1", "s0:1;s0:1;;", "xs0:1", "xys0:1", "s0:1x;s0:1", "s0:1;xys0:1", "s0:0;s0:1",
            FULL};
        for (String signs : texts) {
            LapseMandates book = Books.twelve();
            Checks.write(book, signs);
            Checks.dueThrow(book, "run() of " + signs, Checks.ILLEGAL_ARGUMENT, () -> book.run());
            Checks.due("nothing is spent", book.count(5), 0);
            Checks.due("the buffer is as it was", book.clearBuffer(), signs.length());
        }
    }

    // ---- Promise 16

    private static void undo() {
        String where = "Promise 16";
        Checks.test(where, "Restores the latest saved state, and drops it.", TextEdgesTest::restoresTheLatest);
        Checks.test(where, "Returns how many saved states are left.", TextEdgesTest::undoAnswers);
        Checks.test(where, "Throws `IllegalStateException` if there is none", TextEdgesTest::undoOfNone);
    }

    private static void restoresTheLatest() {
        LapseMandates book = Books.one(100, 1000, 0);
        book.spend(0, 1);
        book.spend(0, 10);
        book.undo();
        Checks.due("the latest", book.count(5), 1);
        book.spend(0, 50);
        book.undo();
        Checks.due("the latest, not that of what was undone", book.count(5), 1);
        book.undo();
        Checks.due("the one before", book.count(5), 0);
        book.undo();
        Checks.due("the first", book.count(0), 0);
    }

    private static void undoAnswers() {
        LapseMandates book = Books.full();
        for (int left = 5; left >= 0; left--) {
            Checks.due("undo()", book.undo(), left);
            Checks.due("count(11)", book.count(11), left);
        }
    }

    private static void undoOfNone() {
        LapseMandates book = new LapseMandates();
        Checks.dueThrow(book, "undo() of a new one", Checks.ILLEGAL_STATE, () -> book.undo());
        Checks.write(book, "s0:1");
        Checks.dueThrow(book, "undo() of a text", Checks.ILLEGAL_STATE, () -> book.undo());
        book.run();
        Checks.due("undo() of run()", book.undo(), 0);
        Checks.dueThrow(book, "undo() of undo()", Checks.ILLEGAL_STATE, () -> book.undo());
        LapseMandates full = Books.full();
        for (int turn = 0; turn < 6; turn++) {
            full.undo();
        }
        Checks.dueThrow(full, "undo(), the 7th", Checks.ILLEGAL_STATE, () -> full.undo());
    }
}
