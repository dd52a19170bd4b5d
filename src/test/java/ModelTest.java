import java.util.Random;

/**
 * Long runs of calls, the same each time, whose answers are compared with those of the model, all
 * promises at once; and the digest after each call, so that no call changes what it should not.
 */
public final class ModelTest {
    private static final int RUNS = 700;
    /** The document promises no more of one object; a step makes fewer than a hundred calls. */
    private static final int MOST_CALLS = 512;
    private static final int MOST_CALLS_OF_A_STEP = 100;
    private static final int[] EDGES = {Integer.MIN_VALUE, -2, -1, 0, 1, 2, 7, 8, 11, 12, 13, 30, 31, 32, 33, 60,
        61, 126, 127, 9999, 10000, Integer.MAX_VALUE};
    private static final String SIGNS = "s0:1;u1234567890:;";

    private final Random random;
    private final LapseMandates book = new LapseMandates();
    private final Model model = new Model();
    private final int most;
    private String log = "";
    private int calls = 0;

    private ModelTest(long seed) {
        random = new Random(seed);
        // With small limits the sums come to their edges, with great ones the shares are finer.
        most = new int[] {6, 40, 300, 9999}[(int) (seed % 4)];
    }

    public static void main(String[] args) {
        int runs = args.length > 0 ? Integer.parseInt(args[0]) : RUNS;
        for (int seed = 0; seed < runs; seed++) {
            new ModelTest(seed).play(seed);
        }
        Checks.close();
    }

    private void play(int seed) {
        while (calls <= MOST_CALLS - MOST_CALLS_OF_A_STEP) {
            String name = "run " + seed + ", call " + calls + ": ";
            int kind = random.nextInt(100);
            step(name, kind);
            calls++;
            Checks.due(name + log + " digest()", book.digest(), model.digest());
        }
    }

    private void compare(String name, String call, Checks.Call got, Checks.Call want) {
        log = call;
        calls++;
        Checks.dueSame(name + call, got, want);
    }

    private int oneOf(int bound) {
        return random.nextInt(30) == 0 ? EDGES[random.nextInt(EDGES.length)] : random.nextInt(bound);
    }

    private int amount() {
        return random.nextInt(20) == 0 ? EDGES[random.nextInt(EDGES.length)] : 1 + random.nextInt(most);
    }

    private int lowAmount() {
        return Math.max(1, amount() / 4);
    }

    private int existing() {
        return oneOf(Math.max(1, model.count(0)));
    }

    /** One that stands, if a few tries find one. */
    private int standing() {
        int mandate = existing();
        for (int turn = 0; turn < 4 && model.count(1) > 0; turn++) {
            if (mandate >= 0 && mandate < model.count(0) && model.mandate(mandate, 5) == 1) {
                return mandate;
            }
            mandate = existing();
        }
        return mandate;
    }

    /** At times as much as the upper one has, or a little more or less. */
    private int limitUnder(int upper, int what) {
        if (upper < 0 || upper >= model.count(0) || random.nextInt(4) == 0) {
            return amount();
        }
        return model.mandate(upper, what) + 1 - random.nextInt(2 + most / 6);
    }

    private void step(String name, int kind) {
        if (kind < 14) {
            int upper = random.nextInt(8) == 0 || model.count(0) == 0 ? -1 : standing();
            int holder = oneOf(8);
            int each = limitUnder(upper, 2);
            int period = limitUnder(upper, 3);
            int needed = oneOf(4);
            compare(name, "give " + upper + " " + holder + " " + each + " " + period + " " + needed,
                    () -> book.give(upper, holder, each, period, needed),
                    () -> model.give(upper, holder, each, period, needed));
        } else if (kind < 45) {
            spendOrUrge(name, kind < 30);
        } else if (kind < 62) {
            int request = oneOf(Math.max(1, model.count(2)));
            int person = person(request);
            compare(name, "approve " + request + " " + person, () -> book.approve(request, person),
                    () -> model.approve(request, person));
        } else if (kind < 66) {
            int days = random.nextInt(3) == 0 ? oneOf(62) : random.nextInt(4);
            compare(name, "pass " + days, () -> book.pass(days), () -> model.pass(days));
        } else if (kind < 78) {
            change(name, kind);
        } else if (kind < 86) {
            text(name);
        } else {
            tell(name);
        }
    }

    private int person(int request) {
        if (request < 0 || request >= model.count(2) || random.nextInt(4) == 0) {
            return oneOf(8);
        }
        int could = model.request(request, 6);
        int start = random.nextInt(8);
        for (int turn = 0; turn < 8; turn++) {
            int person = (start + turn) % 8;
            if ((could >> person & 1) == 1) {
                return person;
            }
        }
        return start;
    }

    private void spendOrUrge(String name, boolean isUrgent) {
        int mandate = standing();
        int amount = lowAmount();
        compare(name, (isUrgent ? "urge " : "spend ") + mandate + " " + amount,
                () -> isUrgent ? book.urge(mandate, amount) : book.spend(mandate, amount),
                () -> isUrgent ? model.urge(mandate, amount) : model.spend(mandate, amount));
    }

    private void change(String name, int kind) {
        int mandate = standing();
        int upper = mandate >= 0 && mandate < model.count(0) ? model.mandate(mandate, 0) : -1;
        int each = limitUnder(upper, 2);
        int period = limitUnder(upper, 3);
        int small = random.nextInt(6) == 0 ? oneOf(4) : random.nextInt(3);
        int setting = random.nextInt(12) == 0 ? oneOf(4) : random.nextInt(2);
        switch (kind) {
            case 66:
                if (random.nextInt(3) == 0) {
                    compare(name, "withdraw " + mandate, () -> book.withdraw(mandate), () -> model.withdraw(mandate));
                }
                break;
            case 67:
            case 68:
            case 69:
                compare(name, "limit " + mandate + " " + each + " " + period,
                        () -> book.limit(mandate, each, period), () -> model.limit(mandate, each, period));
                break;
            case 70:
            case 71:
                compare(name, "need " + mandate + " " + small, () -> book.need(mandate, small),
                        () -> model.need(mandate, small));
                break;
            case 72:
            case 73:
                compare(name, "takeBack " + small, () -> book.takeBack(small), () -> model.takeBack(small));
                break;
            case 74:
            case 75:
                int value = random.nextInt(4) == 0 ? oneOf(32) : 2 + random.nextInt(10);
                compare(name, "set " + setting + " " + value, () -> book.set(setting, value),
                        () -> model.set(setting, value));
                break;
            default:
                for (int turn = random.nextInt(4); turn >= 0; turn--) {
                    compare(name, "undo", () -> book.undo(), () -> model.undo());
                }
        }
    }

    private void text(String name) {
        if (random.nextInt(3) == 0) {
            compare(name, "clearBuffer", () -> book.clearBuffer(), () -> model.clearBuffer());
        }
        boolean isPlain = random.nextInt(3) != 0;
        StringBuilder signs = new StringBuilder();
        for (int turn = random.nextInt(8); turn >= 0; turn--) {
            if (isPlain) {
                signs.append(signs.length() > 0 ? ";" : "").append(random.nextBoolean() ? 's' : 'u');
                signs.append(random.nextInt(Math.max(1, model.count(0)))).append(':').append(lowAmount());
            } else {
                signs.append(SIGNS.charAt(random.nextInt(SIGNS.length())));
            }
        }
        for (int index = 0; index < signs.length(); index++) {
            int code = random.nextInt(200) == 0 ? oneOf(130) : signs.charAt(index);
            compare(name, "append " + code, () -> book.append(code), () -> model.append(code));
        }
        compare(name, "firstError", () -> book.firstError(), () -> model.firstError());
        compare(name, "run of " + signs, () -> book.run(), () -> model.run());
    }

    private void tell(String name) {
        int number = existing();
        int request = oneOf(7);
        int person = oneOf(8);
        int what = oneOf(13);
        int amount = amount();
        boolean isUrgent = random.nextBoolean();
        compare(name, "mandate " + number + " " + what, () -> book.mandate(number, what),
                () -> model.mandate(number, what));
        compare(name, "request " + request + " " + what, () -> book.request(request, what),
                () -> model.request(request, what));
        compare(name, "person " + person + " " + what, () -> book.person(person, what),
                () -> model.person(person, what));
        compare(name, "count " + what, () -> book.count(what), () -> model.count(what));
        compare(name, "setting " + what, () -> book.setting(what), () -> model.setting(what));
        compare(name, "whyNot " + number + " " + amount, () -> book.whyNot(number, amount),
                () -> model.whyNot(number, amount));
        compare(name, "room " + number, () -> book.room(number, isUrgent), () -> model.room(number, isUrgent));
        compare(name, "under " + number, () -> book.under(number), () -> model.under(number));
        compare(name, "narrowest " + number, () -> book.narrowest(number), () -> model.narrowest(number));
        compare(name, "lapsesIn " + number, () -> book.lapsesIn(number), () -> model.lapsesIn(number));
        compare(name, "usedShare " + number, () -> Double.doubleToLongBits(book.usedShare(number)),
                () -> Double.doubleToLongBits(model.usedShare(number)));
    }
}
