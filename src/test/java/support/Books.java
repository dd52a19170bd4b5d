/** Objects that several tests begin with. */
final class Books {
    private Books() {
    }

    /** One of the board, of person 0. */
    static LapseMandates one(int each, int period, int needed) {
        LapseMandates book = new LapseMandates();
        book.give(-1, 0, each, period, needed);
        return book;
    }

    /** 0 of person 0, 1 of person 1 under it, 2 of person 2 under that; all need as many approvals. */
    static LapseMandates chain(int needed) {
        LapseMandates book = new LapseMandates();
        book.give(-1, 0, 500, 1000, needed);
        book.give(0, 1, 300, 600, needed);
        book.give(1, 2, 200, 400, needed);
        return book;
    }

    /** 0 - (1 - (2, 4 - 5), 3), 6; each of the person of its number, with 100 for each spending. */
    static LapseMandates tree() {
        LapseMandates book = new LapseMandates();
        book.give(-1, 0, 100, 1000, 0);
        book.give(0, 1, 100, 900, 0);
        book.give(1, 2, 100, 800, 2);
        book.give(0, 3, 100, 700, 1);
        book.give(1, 4, 100, 600, 1);
        book.give(4, 5, 100, 500, 0);
        book.give(-1, 6, 100, 400, 0);
        return book;
    }

    /** 0 of person 0, and 1 of person 1 under it, which needs an approval; one is open, one waits. */
    static LapseMandates small() {
        LapseMandates book = new LapseMandates();
        book.give(-1, 0, 100, 1000, 0);
        book.give(0, 1, 100, 1000, 1);
        book.urge(1, 5);
        book.spend(1, 6);
        return book;
    }

    /** Twelve of the board, that need no approval and are held back by nothing. */
    static LapseMandates twelve() {
        LapseMandates book = new LapseMandates();
        for (int number = 0; number < 12; number++) {
            book.give(-1, number % 8, 9999, 9999, 0);
        }
        return book;
    }

    /** Twelve in one chain, the topmost of person 7, the others of persons 0 to 2. */
    static LapseMandates ladder() {
        LapseMandates book = new LapseMandates();
        book.set(1, 12);
        for (int number = 0; number < 12; number++) {
            book.give(number - 1, number == 0 ? 7 : number % 3, 100, 100, number == 11 ? 1 : 0);
        }
        return book;
    }

    /** Twelve mandates, six that wait (two of them urgent), six saved states, and a buffer of 60 characters. */
    static LapseMandates full() {
        LapseMandates book = new LapseMandates();
        book.give(-1, 0, 900, 5000, 0);
        for (int number = 1; number < 12; number++) {
            book.give((number - 1) / 3, number % 8, 900 - number, 5000 - number, number % 4);
        }
        book.spend(1, 11);
        book.spend(2, 12);
        book.urge(3, 13);
        book.spend(9, 14);
        book.urge(10, 15);
        book.spend(11, 16);
        Checks.write(book, "s0:1;u1:2;s2:3;u3:4;s4:5;u5:6;s6:7;u7:8;s8:9;u9:1;s10:2;u11:");
        return book;
    }

    static void passTo(LapseMandates book, int day) {
        for (int turn = 0; turn < 100 && book.count(3) < day; turn++) {
            book.pass(Math.min(60, day - book.count(3)));
        }
    }

    /** Those that stand, as a mask. */
    static int standing(LapseMandates book) {
        int mask = 0;
        for (int number = 0; number < book.count(0); number++) {
            mask += book.mandate(number, 5) << number;
        }
        return mask;
    }

    /** Calls all that changes nothing, with all that it can be asked for. */
    static void askAll(LapseMandates book) {
        digestOf(book, "");
        book.digest();
        book.firstError();
        for (int number = 0; number < book.count(0); number++) {
            for (int amount = 1; amount <= 9999; amount += 1111) {
                book.whyNot(number, amount);
            }
        }
    }

    /** What promise 28 says of digest(), counted from the other calls; the text is what the buffer has. */
    static long digestOf(LapseMandates book, String text) {
        long hash = 2543;
        for (int what = 0; what < 12; what++) {
            hash = 31 * hash + book.count(what);
        }
        hash = 31 * (31 * hash + book.setting(0)) + book.setting(1);
        for (int number = 0; number < book.count(0); number++) {
            hash = mandateDigest(hash, book, number);
        }
        for (int request = 0; request < book.count(2); request++) {
            for (int what = 0; what < 7; what++) {
                hash = 31 * hash + book.request(request, what);
            }
        }
        for (int person = 0; person < 8; person++) {
            for (int what = 0; what < 4; what++) {
                hash = 31 * hash + book.person(person, what);
            }
        }
        hash = 31 * hash + text.length();
        for (int index = 0; index < text.length(); index++) {
            hash = 31 * hash + text.charAt(index);
        }
        return hash;
    }

    private static long mandateDigest(long before, LapseMandates book, int number) {
        long hash = before;
        for (int what = 0; what < 12; what++) {
            hash = 31 * hash + book.mandate(number, what);
        }
        hash = 31 * hash + book.whyNot(number, 100);
        hash = 31 * hash + book.room(number, false);
        hash = 31 * hash + book.room(number, true);
        hash = 31 * hash + book.under(number);
        hash = 31 * hash + book.narrowest(number);
        hash = 31 * hash + book.lapsesIn(number);
        return 31 * hash + Double.doubleToLongBits(book.usedShare(number));
    }
}
