/** What the tests share: answers and exceptions that are due are compared with those that came. */
final class Checks {
    static final int OUT_OF_BOUNDS = 1;
    static final int ILLEGAL_ARGUMENT = 2;
    static final int ILLEGAL_STATE = 3;

    private static int wrong = 0;
    private static int made = 0;

    private Checks() {
    }

    interface Call {
        long answer();
    }

    static void due(String call, long got, long want) {
        made++;
        if (got != want) {
            wrong++;
            System.out.println(call + " answered " + got + ", due is " + want);
        }
    }

    static void dueShare(String call, double got, double want) {
        due(call, Double.doubleToLongBits(got), Double.doubleToLongBits(want));
    }

    /** The exact class counts: a subclass, as the machine throws it, is not what the document names. */
    static int kindOf(RuntimeException thrown) {
        if (thrown.getClass() == IndexOutOfBoundsException.class) {
            return OUT_OF_BOUNDS;
        }
        if (thrown.getClass() == IllegalArgumentException.class) {
            return ILLEGAL_ARGUMENT;
        }
        return thrown.getClass() == IllegalStateException.class ? ILLEGAL_STATE : -1;
    }

    static int thrownBy(Call call) {
        try {
            call.answer();
            return 0;
        } catch (RuntimeException thrown) {
            return kindOf(thrown);
        }
    }

    /** The call throws the kind that is due, and leaves the object as it was. */
    static void dueThrow(LapseMandates book, String name, int kind, Call call) {
        long before = book.digest();
        due(name + " throws (1 bounds, 2 argument, 3 state)", thrownBy(call), kind);
        due("digest() after " + name + " threw", book.digest(), before);
    }

    static void write(LapseMandates book, String signs) {
        for (int index = 0; index < signs.length(); index++) {
            book.append(signs.charAt(index));
        }
    }

    static void close() {
        System.out.println(wrong == 0 ? made + " answers are as due" : wrong + " answers are not as due");
        if (wrong != 0) {
            System.exit(1);
        }
    }
}
