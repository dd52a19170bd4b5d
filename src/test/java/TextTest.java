/** Promises 12 to 16: the buffer, its errors, what it carries out, and undo. */
public final class TextTest {
    private TextTest() {
    }

    public static void main(String[] args) {
        appends();
        clears();
        findsTheFirstError();
        carriesOut();
        stopsAtWhatThrows();
        wantsACompleteRow();
        undoesEachMethod();
        savesNothingForWhatThrows();
        keepsSixStates();
        leavesTheBuffer();
        Checks.close();
    }

    private static void appends() {
        LapseMandates book = new LapseMandates();
        Checks.dueThrow(book, "append(32)", Checks.ILLEGAL_ARGUMENT, () -> book.append(32));
        Checks.dueThrow(book, "append(127)", Checks.ILLEGAL_ARGUMENT, () -> book.append(127));
        Checks.dueThrow(book, "append(MIN)", Checks.ILLEGAL_ARGUMENT, () -> book.append(Integer.MIN_VALUE));
        for (int length = 1; length <= 60; length++) {
            Checks.due("append", book.append(length % 2 == 0 ? 33 : 126), length);
        }
        Checks.dueThrow(book, "append, the 61st", Checks.ILLEGAL_STATE, () -> book.append(33));
        Checks.dueThrow(book, "append(32), the 61st", Checks.ILLEGAL_ARGUMENT, () -> book.append(32));
        Checks.due("append saves no state", book.count(11), 0);
    }

    private static void clears() {
        LapseMandates book = new LapseMandates();
        Checks.write(book, "s0:1");
        Checks.due("clearBuffer()", book.clearBuffer(), 4);
        Checks.due("clearBuffer() again", book.clearBuffer(), 0);
        Checks.due("append behind it", book.append('u'), 1);
        Checks.due("clearBuffer saves no state", book.count(11), 0);
    }

    private static void dueError(String signs, int index) {
        LapseMandates book = new LapseMandates();
        Checks.write(book, signs);
        Checks.due("firstError() of " + signs, book.firstError(), index);
        Checks.due("firstError() of " + signs + " again", book.firstError(), index);
        Checks.due("length of " + signs, book.clearBuffer(), signs.length());
    }

    private static void findsTheFirstError() {
        dueError("", 0);
        dueError("s", 1);
        dueError("x", 0);
        dueError("S0:1", 0);
        dueError(";", 0);
        dueError("s0:1", 4);
        dueError("u11:9999", 8);
        dueError("s10:1;", 6);
        dueError("s0:1;;", 5);
        dueError("s0:1;x", 5);
        dueError("s:1", 1);
        dueError("s01:1", 2);
        dueError("s12:1", 2);
        dueError("s110:1", 3);
        dueError("s100:1", 3);
        dueError("s9:0", 3);
        dueError("s9:;", 3);
        dueError("s9:01", 3);
        dueError("s9:10000", 7);
        dueError("s9:1000", 7);
        dueError("s9:1:", 4);
        dueError("s9:1s", 4);
        dueError("s9;1", 2);
        dueError("s20:1", 2);
        dueError("s-1:1", 1);
        dueError("ss0:1", 1);
        dueError("s1!1", 2);
        dueError("s0:1;u1:2;s2:3;u3:4;s4:5;u5:6;s6:7;u7:8;s8:9;u9:1;s10:2;u11:", 60);
    }

    private static void carriesOut() {
        LapseMandates book = Books.twelve();
        Checks.write(book, "s10:9999;u0:4999;s1:1;s11:25");
        int saved = book.count(11);
        Checks.due("run()", book.run(), 4);
        Checks.due("run: as one call", book.count(11), saved);
        Checks.due("run: the buffer is clear", book.clearBuffer(), 0);
        Checks.due("run: by 10", book.mandate(10, 7), 9999);
        Checks.due("run: by 0", book.mandate(0, 7), 4999);
        Checks.due("run: by 1", book.mandate(1, 7), 1);
        Checks.due("run: by 11", book.mandate(11, 7), 25);
        Checks.due("run: urgent ones", book.count(8), 1);
        book.undo();
        Checks.due("run, undone at once", book.count(7), 0);
        Checks.write(book, "s0:1;s0:1;s0:1;s0:1;s0:1;s0:1;s0:1;s0:1;s0:1;s0:1;s0:1;s0:10");
        Checks.due("run() of a full buffer", book.run(), 12);
        Checks.due("run: spent", book.count(5), 21);
        book.need(2, 1);
        Checks.write(book, "s2:5;u2:6");
        Checks.due("run: what waits is carried out", book.run(), 2);
        Checks.due("run: two wait", book.count(2), 2);
    }

    private static void stopsAtWhatThrows() {
        LapseMandates book = new LapseMandates();
        book.give(-1, 0, 100, 300, 0);
        Checks.write(book, "s0:50;u0:51;s0:1");
        Checks.due("run: too great for an urgent one", book.run(), 1);
        Checks.due("run: the first alone", book.count(5), 50);
        Checks.due("run: the buffer is clear", book.clearBuffer(), 0);
        Checks.write(book, "s0:1;s1:1;s0:1");
        Checks.due("run: no such mandate", book.run(), 1);
        Checks.write(book, "s0:101;s0:1");
        int saved = book.count(11);
        Checks.due("run: none", book.run(), 0);
        Checks.due("run: none, but a state is saved", book.count(11), saved + 1);
        Checks.write(book, "s11:1");
        Checks.due("run: none, no such mandate", book.run(), 0);
        book.need(0, 1);
        Checks.write(book, "s0:1;s0:1;s0:1;s0:1;s0:1;s0:1;s0:1");
        Checks.due("run: six wait", book.run(), 6);
        book.withdraw(0);
        Checks.write(book, "u0:1");
        Checks.due("run: lapsed", book.run(), 0);
    }

    private static void wantsACompleteRow() {
        String[] incomplete = {"", "s", "s0", "s1", "s10", "s0:", "s0:1;", "s0:1;u", "x", "s0:1x", "s0:10000", "s0:0"};
        for (String signs : incomplete) {
            LapseMandates book = Books.twelve();
            Checks.write(book, signs);
            Checks.dueThrow(book, "run() of " + signs, Checks.ILLEGAL_ARGUMENT, () -> book.run());
            Checks.due("the buffer stays", book.clearBuffer(), signs.length());
        }
    }

    private static void dueUndone(String name, LapseMandates book, Checks.Call call) {
        int saved = book.count(11);
        long before = book.digest();
        call.answer();
        Checks.due(name + ": one state more", book.count(11), saved + 1);
        Checks.due(name + ": undo()", book.undo(), saved);
        Checks.due(name + ": undone", book.digest(), before);
    }

    private static void undoesEachMethod() {
        LapseMandates give = Books.small();
        dueUndone("give", give, () -> give.give(-1, 0, 1, 1, 0));
        LapseMandates withdraw = Books.small();
        dueUndone("withdraw", withdraw, () -> withdraw.withdraw(0));
        LapseMandates limit = Books.small();
        dueUndone("limit", limit, () -> limit.limit(1, 2, 3));
        LapseMandates same = Books.small();
        dueUndone("limit, the same", same, () -> same.limit(1, 100, 1000));
        LapseMandates need = Books.small();
        dueUndone("need", need, () -> need.need(0, 3));
        LapseMandates spend = Books.small();
        dueUndone("spend", spend, () -> spend.spend(0, 3));
        LapseMandates wait = Books.small();
        dueUndone("spend, waits", wait, () -> wait.spend(1, 3));
        LapseMandates urge = Books.small();
        dueUndone("urge", urge, () -> urge.urge(1, 3));
        LapseMandates approve = Books.small();
        dueUndone("approve", approve, () -> approve.approve(1, 0));
        LapseMandates takeBack = Books.small();
        dueUndone("takeBack", takeBack, () -> takeBack.takeBack(1));
        LapseMandates pass = Books.small();
        dueUndone("pass", pass, () -> pass.pass(60));
        LapseMandates grace = Books.small();
        dueUndone("set(0)", grace, () -> grace.set(0, 9));
        LapseMandates longest = Books.small();
        dueUndone("set(1)", longest, () -> longest.set(1, 9));
        LapseMandates unchanged = Books.small();
        dueUndone("set, the same", unchanged, () -> unchanged.set(1, 4));
    }

    private static void savesNothingForWhatThrows() {
        LapseMandates book = Books.small();
        Checks.dueThrow(book, "takeBack(0)", Checks.ILLEGAL_STATE, () -> book.takeBack(0));
        Checks.dueThrow(book, "spend(0, 101)", Checks.ILLEGAL_STATE, () -> book.spend(0, 101));
        Checks.due("four states", book.count(11), 4);
        for (int left = 3; left >= 0; left--) {
            Checks.due("undo()", book.undo(), left);
        }
        Checks.dueThrow(book, "undo() of nothing", Checks.ILLEGAL_STATE, () -> book.undo());
    }

    private static void keepsSixStates() {
        LapseMandates book = new LapseMandates();
        book.give(-1, 0, 100, 1000, 0);
        for (int amount = 1; amount <= 20; amount++) {
            book.spend(0, amount);
        }
        Checks.due("six states", book.count(11), 6);
        int spent = 210;
        for (int left = 5; left >= 0; left--) {
            spent -= 15 + left;
            Checks.due("undo()", book.undo(), left);
            Checks.due("spent before", book.count(5), spent);
        }
        Checks.dueThrow(book, "undo(), the oldest are dropped", Checks.ILLEGAL_STATE, () -> book.undo());
        book.spend(0, 1);
        Checks.due("undo() of one more", book.undo(), 0);
        Checks.due("spent before", book.count(5), 105);
    }

    private static void leavesTheBuffer() {
        LapseMandates book = Books.small();
        Checks.write(book, "s0:4");
        book.need(0, 1);
        Checks.due("undo()", book.undo(), 4);
        Checks.due("the buffer stays", book.firstError(), 4);
        book.run();
        book.undo();
        Checks.due("run undone, the buffer stays clear", book.clearBuffer(), 0);
        Checks.write(book, "s0:4;x");
        book.undo();
        Checks.due("the buffer stays", book.firstError(), 5);
    }
}
