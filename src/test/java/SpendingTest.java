/** Promises 6 to 11, 18 to 23, 26 and 27: spendings, what waits, days, settings, and what is told of them. */
public final class SpendingTest {
    private SpendingTest() {
    }

    public static void main(String[] args) {
        spendsWithinTheLimits();
        refusesToSpend();
        letsAtMostSixWait();
        spendsUrgently();
        approvesOnce();
        failsWhenItIsRefusedByThen();
        approvesWhatIsUrgent();
        takesBack();
        letsDaysPass();
        lapsesWhatIsLate();
        endsAtDay5000();
        changesSettings();
        tellsOfRequests();
        tellsOfPersons();
        counts();
        tellsWhyNot();
        tellsTheRoom();
        tellsWhenItLapses();
        tellsTheUsedShare();
        Checks.close();
    }

    /** 0 of person 0, 1 of person 1 under it, 2 of person 2 under that. */
    private static LapseMandates chain(int needed) {
        LapseMandates book = new LapseMandates();
        book.give(-1, 0, 500, 1000, needed);
        book.give(0, 1, 300, 600, needed);
        book.give(1, 2, 200, 400, needed);
        return book;
    }

    private static void spendsWithinTheLimits() {
        LapseMandates book = chain(0);
        Checks.due("spend(2, 200)", book.spend(2, 200), 0);
        Checks.due("spend(2, 200), up to the limit", book.spend(2, 200), 0);
        Checks.dueThrow(book, "spend(2, 1), above its own", Checks.ILLEGAL_STATE, () -> book.spend(2, 1));
        Checks.due("spend(1, 200), up to its limit", book.spend(1, 200), 0);
        Checks.dueThrow(book, "spend(1, 1)", Checks.ILLEGAL_STATE, () -> book.spend(1, 1));
        Checks.due("spend(0, 400)", book.spend(0, 400), 0);
        Checks.due("sum of 0", book.mandate(0, 6), 1000);
        Checks.due("sum of 1", book.mandate(1, 6), 600);
        Checks.due("sum of 2", book.mandate(2, 6), 400);
        Checks.due("alone by 1", book.mandate(1, 7), 200);
        book.pass(10);
        Checks.due("spend(2, 200), the next period", book.spend(2, 200), 0);
        book.spend(0, 500);
        book.spend(0, 300);
        Checks.dueThrow(book, "spend(2, 1), above that of one above", Checks.ILLEGAL_STATE, () -> book.spend(2, 1));
    }

    private static void refusesToSpend() {
        LapseMandates book = chain(0);
        Checks.dueThrow(book, "spend(3, 0)", Checks.OUT_OF_BOUNDS, () -> book.spend(3, 0));
        Checks.dueThrow(book, "spend(-1, 1)", Checks.OUT_OF_BOUNDS, () -> book.spend(-1, 1));
        Checks.dueThrow(book, "spend(0, 0)", Checks.ILLEGAL_ARGUMENT, () -> book.spend(0, 0));
        Checks.dueThrow(book, "spend(0, -5)", Checks.ILLEGAL_ARGUMENT, () -> book.spend(0, -5));
        Checks.dueThrow(book, "spend(0, 10000)", Checks.ILLEGAL_ARGUMENT, () -> book.spend(0, 10000));
        Checks.dueThrow(book, "spend(0, 501)", Checks.ILLEGAL_STATE, () -> book.spend(0, 501));
        book.withdraw(2);
        Checks.dueThrow(book, "spend(2, 1), lapsed", Checks.ILLEGAL_STATE, () -> book.spend(2, 1));
        Checks.dueThrow(book, "spend(2, 0), lapsed", Checks.ILLEGAL_ARGUMENT, () -> book.spend(2, 0));
        Checks.dueThrow(book, "urge(3, 0)", Checks.OUT_OF_BOUNDS, () -> book.urge(3, 0));
        Checks.dueThrow(book, "urge(-1, 1)", Checks.OUT_OF_BOUNDS, () -> book.urge(-1, 1));
        Checks.dueThrow(book, "urge(0, 0)", Checks.ILLEGAL_ARGUMENT, () -> book.urge(0, 0));
        Checks.dueThrow(book, "urge(0, 10000)", Checks.ILLEGAL_ARGUMENT, () -> book.urge(0, 10000));
        Checks.dueThrow(book, "urge(2, 1), lapsed", Checks.ILLEGAL_STATE, () -> book.urge(2, 1));
    }

    private static void letsAtMostSixWait() {
        LapseMandates book = chain(1);
        for (int turn = 0; turn < 6; turn++) {
            Checks.due("a request waits", turn % 2 == 0 ? book.spend(1, 100) : book.urge(1, 10), 1);
        }
        Checks.dueThrow(book, "spend, the 7th", Checks.ILLEGAL_STATE, () -> book.spend(1, 1));
        Checks.dueThrow(book, "urge, the 7th", Checks.ILLEGAL_STATE, () -> book.urge(1, 1));
        book.need(1, 0);
        Checks.due("spend, none needed", book.spend(1, 1), 0);
        Checks.due("urge, none needed", book.urge(1, 1), 0);
        book.need(1, 2);
        book.takeBack(0);
        Checks.due("spend, the 6th again", book.spend(1, 2), 1);
        Checks.due("it is the last one", book.request(5, 1), 2);
    }

    private static void spendsUrgently() {
        LapseMandates book = new LapseMandates();
        book.give(-1, 0, 201, 205, 1);
        Checks.dueThrow(book, "urge(0, 101), above a half", Checks.ILLEGAL_STATE, () -> book.urge(0, 101));
        Checks.due("urge(0, 100)", book.urge(0, 100), 1);
        Checks.due("it is spent at once", book.mandate(0, 6), 100);
        book.need(0, 0);
        Checks.due("urge(0, 100), none needed", book.urge(0, 100), 0);
        Checks.dueThrow(book, "urge(0, 6), above the period", Checks.ILLEGAL_STATE, () -> book.urge(0, 6));
        Checks.due("urge(0, 5)", book.urge(0, 5), 0);
        Checks.due("one is open", book.count(2), 1);
        Checks.due("three urgent ones", book.count(8), 3);
        Checks.due("three spendings", book.count(7), 3);
        book.give(-1, 0, 1, 1, 0);
        Checks.dueThrow(book, "urge(1, 1), a half is 0", Checks.ILLEGAL_STATE, () -> book.urge(1, 1));
    }

    private static void approvesOnce() {
        LapseMandates book = chain(2);
        book.spend(2, 150);
        Checks.dueThrow(book, "approve: no such request", Checks.OUT_OF_BOUNDS, () -> book.approve(1, 0));
        Checks.dueThrow(book, "approve: request -1", Checks.OUT_OF_BOUNDS, () -> book.approve(-1, 0));
        Checks.dueThrow(book, "approve: person 8", Checks.OUT_OF_BOUNDS, () -> book.approve(0, 8));
        Checks.dueThrow(book, "approve: person -1", Checks.OUT_OF_BOUNDS, () -> book.approve(0, -1));
        Checks.dueThrow(book, "approve: person 32", Checks.OUT_OF_BOUNDS, () -> book.approve(0, 32));
        Checks.dueThrow(book, "approve: its holder", Checks.ILLEGAL_STATE, () -> book.approve(0, 2));
        Checks.dueThrow(book, "approve: a stranger", Checks.ILLEGAL_STATE, () -> book.approve(0, 3));
        Checks.due("approve: the first", book.approve(0, 0), 0);
        Checks.dueThrow(book, "approve: the same again", Checks.ILLEGAL_STATE, () -> book.approve(0, 0));
        Checks.due("nothing is spent so far", book.count(5), 0);
        Checks.due("approve: the second", book.approve(0, 1), 1);
        Checks.due("it is spent", book.mandate(2, 6), 150);
        Checks.due("nothing waits", book.count(2), 0);
        LapseMandates same = new LapseMandates();
        same.give(-1, 4, 9, 9, 1);
        same.give(0, 4, 9, 9, 1);
        same.spend(1, 3);
        Checks.dueThrow(same, "approve: holds both", Checks.ILLEGAL_STATE, () -> same.approve(0, 4));
        same.spend(0, 3);
        Checks.due("none is above one of the board", same.request(1, 6), 0);
    }

    private static void failsWhenItIsRefusedByThen() {
        LapseMandates book = chain(1);
        book.spend(2, 200);
        book.spend(1, 300);
        book.spend(1, 300);
        book.spend(1, 150);
        book.limit(2, 199, 400);
        Checks.due("approve: above its limit by then", book.approve(0, 0), 2);
        Checks.due("approve: made", book.approve(0, 0), 1);
        Checks.due("approve: made", book.approve(0, 0), 1);
        Checks.due("approve: above the period by then", book.approve(0, 0), 2);
        Checks.due("two have failed", book.count(9), 2);
        Checks.due("two were made", book.count(7), 2);
        Checks.due("four approvals", book.person(0, 2), 4);
        Checks.due("nothing waits", book.count(2), 0);
    }

    private static void approvesWhatIsUrgent() {
        LapseMandates book = chain(1);
        book.spend(2, 3);
        book.urge(2, 100);
        book.limit(2, 1, 1);
        Checks.due("approve: urgent, above the limits by now", book.approve(1, 1), 1);
        Checks.due("it counts once", book.count(5), 100);
        Checks.due("it counts once", book.count(7), 1);
        Checks.due("none has failed", book.count(9), 0);
        Checks.due("the one before it waits", book.request(0, 1), 3);
        book.limit(2, 100, 400);
        book.urge(2, 50);
        book.withdraw(0);
        Checks.due("a lapsed one's holder can approve", book.request(0, 6), 0b11);
        Checks.due("approve: all have lapsed", book.approve(0, 0), 1);
    }

    private static void takesBack() {
        LapseMandates book = chain(1);
        book.spend(2, 11);
        book.urge(2, 12);
        book.spend(1, 13);
        Checks.dueThrow(book, "takeBack(3)", Checks.OUT_OF_BOUNDS, () -> book.takeBack(3));
        Checks.dueThrow(book, "takeBack(-1)", Checks.OUT_OF_BOUNDS, () -> book.takeBack(-1));
        Checks.dueThrow(book, "takeBack(1), urgent", Checks.ILLEGAL_STATE, () -> book.takeBack(1));
        Checks.due("takeBack(0)", book.takeBack(0), 11);
        Checks.due("those behind move up", book.request(0, 1), 12);
        Checks.due("takeBack(1)", book.takeBack(1), 13);
        Checks.due("one waits", book.count(2), 1);
        Checks.due("none was dropped", book.count(9), 0);
    }

    private static void letsDaysPass() {
        LapseMandates book = chain(0);
        Checks.dueThrow(book, "pass(0)", Checks.ILLEGAL_ARGUMENT, () -> book.pass(0));
        Checks.dueThrow(book, "pass(-1)", Checks.ILLEGAL_ARGUMENT, () -> book.pass(-1));
        Checks.dueThrow(book, "pass(61)", Checks.ILLEGAL_ARGUMENT, () -> book.pass(61));
        Checks.dueThrow(book, "pass(MAX)", Checks.ILLEGAL_ARGUMENT, () -> book.pass(Integer.MAX_VALUE));
        book.spend(2, 70);
        Checks.due("pass(9)", book.pass(9), 0);
        Checks.due("day", book.count(3), 9);
        Checks.due("period", book.count(4), 0);
        Checks.due("sum, the same period", book.mandate(0, 6), 70);
        Checks.due("spent, the same period", book.count(6), 70);
        book.pass(1);
        Checks.due("period", book.count(4), 1);
        Checks.due("sum, the next period", book.mandate(0, 6), 0);
        Checks.due("spent, the next period", book.count(6), 0);
        Checks.due("spent so far", book.count(5), 70);
        book.spend(2, 30);
        book.pass(60);
        Checks.due("sum, six periods on", book.mandate(2, 6), 0);
        Checks.due("period", book.count(4), 7);
        book.spend(2, 30);
        book.pass(5);
        Checks.due("sum, five days on", book.mandate(2, 6), 30);
    }

    private static void lapsesWhatIsLate() {
        LapseMandates book = chain(1);
        book.spend(2, 10);
        book.urge(2, 10);
        book.spend(1, 10);
        book.pass(1);
        book.urge(1, 10);
        book.spend(0, 10);
        Checks.due("pass: in time", book.pass(2), 0);
        Checks.due("pass: the first is late", book.pass(1), 1);
        Checks.due("its mandate lapsed", book.mandate(2, 11), 4);
        Checks.due("its request was dropped", book.count(9), 1);
        Checks.due("three wait", book.count(2), 3);
        Checks.due("lapsed by late ones", book.count(10), 1);
        Checks.due("pass: the second is late", book.pass(1), 1);
        Checks.due("lapsed by late ones", book.count(10), 2);
        Checks.due("the one of the topmost waits", book.request(0, 0), 0);
        Checks.due("what was spent stays", book.count(5), 20);

        LapseMandates together = chain(1);
        together.urge(2, 10);
        together.spend(1, 10);
        together.urge(0, 10);
        together.spend(2, 10);
        together.urge(1, 10);
        Checks.due("pass: three are late", together.pass(60), 3);
        Checks.due("on the fourth day", together.mandate(0, 11), 4);
        Checks.due("nothing waits", together.count(2), 0);
        Checks.due("two were dropped", together.count(9), 2);
        Checks.due("three lapsed by late ones", together.count(10), 3);

        LapseMandates six = new LapseMandates();
        for (int number = 0; number < 6; number++) {
            six.give(-1, number, 10, 10, 1);
            six.urge(number, 5);
        }
        Checks.due("pass: six are late on one day", six.pass(4), 6);
        Checks.due("nothing waits", six.count(2), 0);

        LapseMandates gone = chain(1);
        gone.urge(2, 10);
        gone.withdraw(2);
        Checks.due("the urgent one is open still", gone.count(2), 1);
        Checks.due("pass: late, but lapsed before", gone.pass(4), 0);
        Checks.due("it is gone", gone.count(2), 0);
        Checks.due("none lapsed by it", gone.count(10), 0);
        Checks.due("the day on which it lapsed", gone.mandate(2, 11), 0);
    }

    private static void endsAtDay5000() {
        LapseMandates book = chain(0);
        for (int turn = 0; turn < 83; turn++) {
            book.pass(60);
        }
        Checks.dueThrow(book, "pass: to day 5001", Checks.ILLEGAL_STATE, () -> book.pass(21));
        Checks.dueThrow(book, "pass(61) near the end", Checks.ILLEGAL_ARGUMENT, () -> book.pass(61));
        Checks.due("pass: to day 5000", book.pass(20), 0);
        Checks.due("day", book.count(3), 5000);
        Checks.dueThrow(book, "pass: behind day 5000", Checks.ILLEGAL_STATE, () -> book.pass(1));
    }

    private static void changesSettings() {
        LapseMandates book = chain(1);
        Checks.due("set(0, 30)", book.set(0, 30), 3);
        Checks.due("set(0, 0)", book.set(0, 0), 30);
        Checks.due("set(1, 12)", book.set(1, 12), 4);
        Checks.due("set(1, 1)", book.set(1, 1), 12);
        Checks.due("setting(0)", book.setting(0), 0);
        Checks.due("setting(1)", book.setting(1), 1);
        Checks.dueThrow(book, "set(2, 99)", Checks.OUT_OF_BOUNDS, () -> book.set(2, 99));
        Checks.dueThrow(book, "set(-1, 1)", Checks.OUT_OF_BOUNDS, () -> book.set(-1, 1));
        Checks.dueThrow(book, "set(0, -1)", Checks.ILLEGAL_ARGUMENT, () -> book.set(0, -1));
        Checks.dueThrow(book, "set(0, 31)", Checks.ILLEGAL_ARGUMENT, () -> book.set(0, 31));
        Checks.dueThrow(book, "set(1, 0)", Checks.ILLEGAL_ARGUMENT, () -> book.set(1, 0));
        Checks.dueThrow(book, "set(1, 13)", Checks.ILLEGAL_ARGUMENT, () -> book.set(1, 13));
        Checks.dueThrow(book, "setting(2)", Checks.OUT_OF_BOUNDS, () -> book.setting(2));
        Checks.dueThrow(book, "setting(-1)", Checks.OUT_OF_BOUNDS, () -> book.setting(-1));
        book.urge(2, 1);
        Checks.due("pass: late at once", book.pass(1), 1);
        book.set(0, 2);
        book.urge(1, 1);
        Checks.due("pass: two days are in time", book.pass(2), 0);
        Checks.due("pass: the third is not", book.pass(1), 1);
    }

    private static void tellsOfRequests() {
        LapseMandates book = chain(2);
        book.pass(2);
        book.spend(2, 9);
        book.pass(1);
        book.urge(1, 8);
        book.approve(0, 1);
        int[] first = {2, 9, 2, 0, 2, 0b10, 0b1};
        int[] second = {1, 8, 3, 1, 2, 0, 0b1};
        for (int what = 0; what < 7; what++) {
            Checks.due("request(0, " + what + ")", book.request(0, what), first[what]);
            Checks.due("request(1, " + what + ")", book.request(1, what), second[what]);
        }
        Checks.dueThrow(book, "request(2, 9)", Checks.OUT_OF_BOUNDS, () -> book.request(2, 9));
        Checks.dueThrow(book, "request(-1, 0)", Checks.OUT_OF_BOUNDS, () -> book.request(-1, 0));
        Checks.dueThrow(book, "request(0, 7)", Checks.ILLEGAL_ARGUMENT, () -> book.request(0, 7));
        Checks.dueThrow(book, "request(0, -1)", Checks.ILLEGAL_ARGUMENT, () -> book.request(0, -1));
    }

    private static void tellsOfPersons() {
        LapseMandates book = chain(1);
        book.give(0, 2, 100, 100, 0);
        book.spend(3, 40);
        book.spend(2, 50);
        book.spend(2, 60);
        book.spend(1, 70);
        book.approve(0, 1);
        int[][] due = {{1, 0, 0, 2}, {1, 0, 1, 1}, {2, 90, 0, 0}, {0, 0, 0, 0}};
        for (int person = 0; person < 4; person++) {
            for (int what = 0; what < 4; what++) {
                Checks.due("person(" + person + ", " + what + ")", book.person(person, what), due[person][what]);
            }
        }
        book.withdraw(2);
        Checks.due("held still", book.person(2, 0), 1);
        Checks.due("spent by what was held", book.person(2, 1), 90);
        Checks.due("one can be approved now", book.person(0, 3), 1);
        Checks.dueThrow(book, "person(8, 9)", Checks.OUT_OF_BOUNDS, () -> book.person(8, 9));
        Checks.dueThrow(book, "person(-1, 0)", Checks.OUT_OF_BOUNDS, () -> book.person(-1, 0));
        Checks.dueThrow(book, "person(0, 4)", Checks.ILLEGAL_ARGUMENT, () -> book.person(0, 4));
        Checks.dueThrow(book, "person(7, -1)", Checks.ILLEGAL_ARGUMENT, () -> book.person(7, -1));
    }

    private static void counts() {
        LapseMandates book = chain(1);
        book.give(-1, 3, 100, 100, 0);
        book.spend(3, 10);
        book.pass(12);
        book.spend(3, 20);
        book.urge(3, 5);
        book.urge(2, 30);
        book.spend(1, 7);
        book.spend(1, 8);
        book.approve(1, 0);
        book.pass(4);
        int[] due = {4, 3, 1, 16, 1, 72, 62, 5, 2, 0, 1, 6};
        for (int what = 0; what < 12; what++) {
            Checks.due("count(" + what + ")", book.count(what), due[what]);
        }
        book.withdraw(1);
        Checks.due("count(9)", book.count(9), 1);
        Checks.due("count(10)", book.count(10), 1);
        Checks.dueThrow(book, "count(12)", Checks.ILLEGAL_ARGUMENT, () -> book.count(12));
        Checks.dueThrow(book, "count(-1)", Checks.ILLEGAL_ARGUMENT, () -> book.count(-1));
    }

    private static void tellsWhyNot() {
        LapseMandates book = chain(0);
        Checks.due("whyNot: not refused", book.whyNot(2, 200), 0);
        Checks.due("whyNot: above each", book.whyNot(2, 201), 2);
        book.spend(2, 200);
        book.spend(2, 100);
        Checks.due("whyNot: up to the period", book.whyNot(2, 100), 0);
        Checks.due("whyNot: above the period", book.whyNot(2, 101), 3);
        Checks.due("whyNot: above both, each is told", book.whyNot(2, 201), 2);
        book.withdraw(2);
        Checks.due("whyNot: lapsed is told first", book.whyNot(2, 9999), 1);
        Checks.dueThrow(book, "whyNot(3, 0)", Checks.OUT_OF_BOUNDS, () -> book.whyNot(3, 0));
        Checks.dueThrow(book, "whyNot(-1, 1)", Checks.OUT_OF_BOUNDS, () -> book.whyNot(-1, 1));
        Checks.dueThrow(book, "whyNot(2, 0)", Checks.ILLEGAL_ARGUMENT, () -> book.whyNot(2, 0));
        Checks.dueThrow(book, "whyNot(2, 10000)", Checks.ILLEGAL_ARGUMENT, () -> book.whyNot(2, 10000));
    }

    private static void tellsTheRoom() {
        LapseMandates book = chain(0);
        book.limit(2, 199, 400);
        Checks.due("room(2)", book.room(2, false), 199);
        Checks.due("room(2), urgent", book.room(2, true), 99);
        book.spend(2, 199);
        book.spend(2, 120);
        Checks.due("room(2), of the period", book.room(2, false), 81);
        Checks.due("room(2), urgent", book.room(2, true), 81);
        book.spend(1, 240);
        Checks.due("room(2), of one above", book.room(2, false), 41);
        book.limit(2, 1, 400);
        Checks.due("room(2), urgent, a half is 0", book.room(2, true), 0);
        book.limit(2, 1, 100);
        Checks.due("room(2), its sum is above", book.room(2, false), 0);
        book.withdraw(1);
        Checks.due("room(1), lapsed", book.room(1, false), 0);
        Checks.dueThrow(book, "room(3)", Checks.OUT_OF_BOUNDS, () -> book.room(3, true));
        Checks.dueThrow(book, "room(-1)", Checks.OUT_OF_BOUNDS, () -> book.room(-1, false));
        LapseMandates full = chain(1);
        for (int turn = 0; turn < 6; turn++) {
            full.spend(2, 1);
        }
        Checks.due("room(2), when six wait", full.room(2, false), 200);
    }

    private static void tellsWhenItLapses() {
        LapseMandates book = chain(1);
        book.give(0, 3, 1, 1, 0);
        book.spend(2, 1);
        Checks.due("lapsesIn: nothing urgent", book.lapsesIn(2), -1);
        book.urge(2, 1);
        book.pass(2);
        book.urge(0, 1);
        int[] due = {4, 4, 2, 4};
        for (int mandate = 0; mandate < 4; mandate++) {
            Checks.due("lapsesIn(" + mandate + ")", book.lapsesIn(mandate), due[mandate]);
        }
        book.set(0, 0);
        Checks.due("lapsesIn: late, but no day has passed", book.lapsesIn(2), 1);
        Checks.due("lapsesIn: with setting 0", book.lapsesIn(3), 1);
        book.set(0, 30);
        Checks.due("lapsesIn(2), with 30 days", book.lapsesIn(2), 29);
        Checks.due("pass: not before", book.pass(28), 0);
        Checks.due("lapsesIn(2), the last day", book.lapsesIn(2), 1);
        Checks.due("pass: then", book.pass(1), 1);
        Checks.due("lapsesIn(2), lapsed", book.lapsesIn(2), -1);
        Checks.due("lapsesIn(1)", book.lapsesIn(1), 2);
        Checks.dueThrow(book, "lapsesIn(4)", Checks.OUT_OF_BOUNDS, () -> book.lapsesIn(4));
        Checks.dueThrow(book, "lapsesIn(-1)", Checks.OUT_OF_BOUNDS, () -> book.lapsesIn(-1));
        LapseMandates gone = chain(1);
        gone.urge(2, 1);
        gone.withdraw(2);
        Checks.due("lapsesIn: an urgent one of a lapsed one", gone.lapsesIn(2), -1);
    }

    private static void tellsTheUsedShare() {
        LapseMandates book = new LapseMandates();
        book.give(-1, 0, 9999, 9999, 0);
        book.give(0, 1, 9999, 7, 0);
        Checks.dueShare("usedShare, nothing", book.usedShare(0), 0.0);
        book.spend(1, 3);
        Checks.dueShare("usedShare(1)", book.usedShare(1), 3.0 / 7.0);
        Checks.dueShare("usedShare(0)", book.usedShare(0), 3.0 / 9999.0);
        book.limit(1, 1, 1);
        Checks.dueShare("usedShare, above its limit", book.usedShare(1), 3.0);
        book.withdraw(0);
        Checks.dueShare("usedShare, lapsed", book.usedShare(1), 3.0);
        Checks.dueThrow(book, "usedShare(2)", Checks.OUT_OF_BOUNDS, () -> (long) book.usedShare(2));
        Checks.dueThrow(book, "usedShare(-1)", Checks.OUT_OF_BOUNDS, () -> (long) book.usedShare(-1));
    }
}
