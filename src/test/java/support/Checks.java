/** What the tests share: answers and exceptions that are due are compared with those that came. */
final class Checks {
    static final int OUT_OF_BOUNDS = 1;
    static final int ILLEGAL_ARGUMENT = 2;
    static final int ILLEGAL_STATE = 3;

    static final int MIN = Integer.MIN_VALUE;
    static final int MAX = Integer.MAX_VALUE;

    private static int wrong = 0;
    private static int made = 0;
    private static int tests = 0;
    private static String sentence = "";

    private Checks() {
    }

    interface Call {
        long answer();
    }

    interface CallOf {
        long answer(int value);
    }

    /** The test of one sentence of the document, told by where it stands and its words, if an answer is wrong. */
    static void test(String where, String words, Runnable body) {
        tests++;
        sentence = where + ", \"" + words + "\": ";
        try {
            body.run();
        } catch (RuntimeException thrown) {
            wrong++;
            System.out.println(sentence + "threw " + thrown);
        }
        sentence = "";
    }

    static void due(String call, long got, long want) {
        made++;
        if (got != want) {
            wrong++;
            System.out.println(sentence + call + " answered " + got + ", due is " + want);
        }
    }

    /** What the call answers for 0, 1, 2 and so on. */
    static void dueEach(String name, CallOf call, int... answers) {
        for (int number = 0; number < answers.length; number++) {
            due(name + " " + number, call.answer(number), answers[number]);
        }
    }

    static void dueShare(String call, double got, double want) {
        due(call, Double.doubleToLongBits(got), Double.doubleToLongBits(want));
    }

    /** The exact class counts: a subclass, as the machine throws it, is not what the document names. */
    static int kindOf(RuntimeException thrown) {
        if (thrown.getClass() == IndexOutOfBoundsException.class) {
            return OUT_OF_BOUNDS;
        }
        if (thrown.getClass() == IllegalArgumentException.class) {
            return ILLEGAL_ARGUMENT;
        }
        return thrown.getClass() == IllegalStateException.class ? ILLEGAL_STATE : -1;
    }

    /** The answer, and the kind that was thrown, 0 if none was. */
    private static long[] outcomeOf(Call call) {
        try {
            return new long[] {call.answer(), 0};
        } catch (RuntimeException thrown) {
            return new long[] {0, kindOf(thrown)};
        }
    }

    /** The call throws the kind that is due, and leaves the object as it was. */
    static void dueThrow(LapseMandates book, String name, int kind, Call call) {
        long before = book.digest();
        due(name + " throws (1 bounds, 2 argument, 3 state)", outcomeOf(call)[1], kind);
        due("digest() after " + name + " threw", book.digest(), before);
    }

    /** The call throws the kind that is due for each of the values. */
    static void dueThrows(LapseMandates book, String name, int kind, CallOf call, int... values) {
        for (int value : values) {
            dueThrow(book, name + " " + value, kind, () -> call.answer(value));
        }
    }

    /** Both answer the same, or throw the same. */
    static void dueSame(String name, Call got, Call want) {
        long[] came = outcomeOf(got);
        long[] wanted = outcomeOf(want);
        due(name + " throws", came[1], wanted[1]);
        due(name, came[0], wanted[0]);
    }

    static void write(LapseMandates book, String signs) {
        for (int index = 0; index < signs.length(); index++) {
            book.append(signs.charAt(index));
        }
    }

    static void close() {
        System.out.println((tests > 0 ? tests + " sentences, " : "")
                + (wrong == 0 ? made + " answers are as due" : wrong + " answers are not as due"));
        if (wrong != 0) {
            System.exit(1);
        }
    }
}
