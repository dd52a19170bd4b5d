import java.util.ArrayList;
import java.util.Arrays;
import java.util.List;
import java.util.regex.Matcher;
import java.util.regex.Pattern;

/**
 * The document once more, as slow and plain as it can be, and held in another way than the class
 * holds it: a list of all spendings from which every sum is counted anew, and whole copies for undo.
 * Each call answers as the class must, or throws as it must.
 */
final class Model {
    static final class Mandate {
        int upper;
        int holder;
        int each;
        int period;
        int needed;
        int lapsedOn = -1;
    }

    static final class Spending {
        int mandate;
        int amount;
        int day;
        boolean isUrgent;
    }

    static final class Request {
        int mandate;
        int amount;
        int day;
        boolean isUrgent;
        int needed;
        List<Integer> approvers = new ArrayList<>();
    }

    private static final Pattern SPENDING = Pattern.compile("([su])(0|1[01]?|[2-9]):([1-9][0-9]{0,3})");
    private static final Pattern ROW = Pattern.compile(SPENDING + "(;" + SPENDING + ")*");

    private List<Mandate> mandates = new ArrayList<>();
    private List<Request> requests = new ArrayList<>();
    private List<Spending> spendings = new ArrayList<>();
    private int[] approvals = new int[8];
    private int[] settings = {3, 4};
    private int day;
    private int dropped;
    private int late;
    private StringBuilder buffer = new StringBuilder();
    private List<Model> saved = new ArrayList<>();

    // ---- the calls that change something

    int give(int upper, int holder, int each, int period, int needed) {
        bounds(upper == -1 || isMandate(upper));
        argument(in(holder, 0, 7) && in(each, 1, 9999) && in(period, 1, 9999) && in(needed, 0, 3));
        state(mandates.size() < 12);
        if (upper != -1) {
            Mandate above = mandates.get(upper);
            state(above.lapsedOn == -1 && each <= above.each && period <= above.period);
            state(chain(upper).size() + 1 <= settings[1]);
        }
        save();
        Mandate mandate = new Mandate();
        mandate.upper = upper;
        mandate.holder = holder;
        mandate.each = each;
        mandate.period = period;
        mandate.needed = needed;
        mandates.add(mandate);
        return mandates.size() - 1;
    }

    int withdraw(int mandate) {
        bounds(isMandate(mandate));
        state(stands(mandate));
        save();
        return lapse(mandate);
    }

    int limit(int mandate, int each, int period) {
        bounds(isMandate(mandate));
        argument(in(each, 1, 9999) && in(period, 1, 9999));
        state(stands(mandate));
        int upper = mandates.get(mandate).upper;
        state(upper == -1 || (mandates.get(upper).each >= each && mandates.get(upper).period >= period));
        for (Mandate other : mandates) {
            state(other.upper != mandate || other.lapsedOn != -1 || (other.each <= each && other.period <= period));
        }
        save();
        int previous = mandates.get(mandate).period;
        mandates.get(mandate).each = each;
        mandates.get(mandate).period = period;
        return previous;
    }

    int need(int mandate, int needed) {
        bounds(isMandate(mandate));
        argument(in(needed, 0, 3));
        state(stands(mandate));
        save();
        int previous = mandates.get(mandate).needed;
        mandates.get(mandate).needed = needed;
        return previous;
    }

    int spend(int mandate, int amount) {
        checkSpend(mandate, amount);
        save();
        return doSpend(mandate, amount);
    }

    int urge(int mandate, int amount) {
        checkUrge(mandate, amount);
        save();
        return doUrge(mandate, amount);
    }

    int approve(int request, int person) {
        bounds(isRequest(request) && in(person, 0, 7));
        state(mayApprove(requests.get(request), person));
        save();
        approvals[person]++;
        Request asked = requests.get(request);
        asked.approvers.add(person);
        if (asked.approvers.size() < asked.needed) {
            return 0;
        }
        requests.remove(request);
        if (asked.isUrgent) {
            return 1;
        }
        if (why(asked.mandate, asked.amount) != 0) {
            dropped++;
            return 2;
        }
        record(asked.mandate, asked.amount, false);
        return 1;
    }

    int takeBack(int request) {
        bounds(isRequest(request));
        state(!requests.get(request).isUrgent);
        save();
        return requests.remove(request).amount;
    }

    int pass(int days) {
        argument(in(days, 1, 60));
        state(day + days <= 5000);
        save();
        int lapsed = 0;
        for (int passed = 0; passed < days; passed++) {
            lapsed += passOneDay();
        }
        late += lapsed;
        return lapsed;
    }

    int set(int setting, int value) {
        bounds(in(setting, 0, 1));
        argument(setting == 0 ? in(value, 0, 30) : in(value, 1, 12));
        save();
        int previous = settings[setting];
        settings[setting] = value;
        return previous;
    }

    int append(int code) {
        argument(in(code, 33, 126));
        state(buffer.length() < 60);
        buffer.append((char) code);
        return buffer.length();
    }

    int clearBuffer() {
        int length = buffer.length();
        buffer.setLength(0);
        return length;
    }

    int firstError() {
        for (int length = 1; length <= buffer.length(); length++) {
            Matcher matcher = ROW.matcher(buffer.substring(0, length));
            if (!matcher.matches() && !matcher.hitEnd()) {
                return length - 1;
            }
        }
        return buffer.length();
    }

    int run() {
        argument(ROW.matcher(buffer).matches());
        save();
        int done = 0;
        Matcher matcher = SPENDING.matcher(buffer);
        try {
            while (matcher.find()) {
                int mandate = Integer.parseInt(matcher.group(2));
                int amount = Integer.parseInt(matcher.group(3));
                if (matcher.group(1).equals("s")) {
                    checkSpend(mandate, amount);
                    doSpend(mandate, amount);
                } else {
                    checkUrge(mandate, amount);
                    doUrge(mandate, amount);
                }
                done++;
            }
        } catch (IndexOutOfBoundsException | IllegalStateException refused) {
            // What was carried out before it stays.
        }
        buffer.setLength(0);
        return done;
    }

    int undo() {
        state(!saved.isEmpty());
        takeFrom(saved.remove(saved.size() - 1));
        return saved.size();
    }

    // ---- the calls that tell something

    int mandate(int number, int what) {
        bounds(isMandate(number));
        argument(in(what, 0, 11));
        Mandate mandate = mandates.get(number);
        int standing = 0;
        for (int other = 0; other < mandates.size(); other++) {
            standing += other != number && stands(other) && chain(other).contains(number) ? 1 : 0;
        }
        int alone = 0;
        for (Spending spending : spendings) {
            alone += spending.mandate == number ? spending.amount : 0;
        }
        int waiting = 0;
        for (Request request : requests) {
            waiting += request.mandate == number ? 1 : 0;
        }
        int[] properties = {mandate.upper, mandate.holder, mandate.each, mandate.period, mandate.needed,
            stands(number) ? 1 : 0, sum(number), alone, chain(number).size(), standing, waiting, mandate.lapsedOn};
        return properties[what];
    }

    int request(int number, int what) {
        bounds(isRequest(number));
        argument(in(what, 0, 6));
        Request request = requests.get(number);
        int did = 0;
        int could = 0;
        for (int person = 0; person < 8; person++) {
            did += request.approvers.contains(person) ? 1 << person : 0;
            could += mayApprove(request, person) ? 1 << person : 0;
        }
        int[] properties = {request.mandate, request.amount, request.day, request.isUrgent ? 1 : 0,
            request.needed, did, could};
        return properties[what];
    }

    int person(int person, int what) {
        bounds(in(person, 0, 7));
        argument(in(what, 0, 3));
        int held = 0;
        for (Mandate mandate : mandates) {
            held += mandate.holder == person && mandate.lapsedOn == -1 ? 1 : 0;
        }
        int spent = 0;
        for (Spending spending : spendings) {
            spent += mandates.get(spending.mandate).holder == person ? spending.amount : 0;
        }
        int could = 0;
        for (Request request : requests) {
            could += mayApprove(request, person) ? 1 : 0;
        }
        return new int[] {held, spent, approvals[person], could}[what];
    }

    int count(int what) {
        argument(in(what, 0, 11));
        int standing = 0;
        for (Mandate mandate : mandates) {
            standing += mandate.lapsedOn == -1 ? 1 : 0;
        }
        int spent = 0;
        int present = 0;
        int urgent = 0;
        for (Spending spending : spendings) {
            spent += spending.amount;
            present += spending.day / 10 == day / 10 ? spending.amount : 0;
            urgent += spending.isUrgent ? 1 : 0;
        }
        return new int[] {mandates.size(), standing, requests.size(), day, day / 10, spent, present,
            spendings.size(), urgent, dropped, late, saved.size()}[what];
    }

    int setting(int setting) {
        bounds(in(setting, 0, 1));
        return settings[setting];
    }

    int whyNot(int mandate, int amount) {
        bounds(isMandate(mandate));
        argument(in(amount, 1, 9999));
        return why(mandate, amount);
    }

    int room(int mandate, boolean isUrgent) {
        bounds(isMandate(mandate));
        int most = 0;
        int refused = mandates.get(mandate).each / (isUrgent ? 2 : 1) + 1;
        while (refused - most > 1) {
            int middle = (most + refused) / 2;
            if (why(mandate, middle) == 0) {
                most = middle;
            } else {
                refused = middle;
            }
        }
        return most;
    }

    int under(int mandate) {
        bounds(isMandate(mandate));
        int mask = 0;
        for (int other = 0; stands(mandate) && other < mandates.size(); other++) {
            mask += stands(other) && chain(other).contains(mandate) ? 1 << other : 0;
        }
        return mask;
    }

    int narrowest(int mandate) {
        bounds(isMandate(mandate));
        int found = mandate;
        for (int link : chain(mandate)) {
            int left = mandates.get(link).period - sum(link);
            found = left < mandates.get(found).period - sum(found) ? link : found;
        }
        return found;
    }

    /** Lets the days come, one after the other, in a copy. */
    int lapsesIn(int mandate) {
        bounds(isMandate(mandate));
        if (!stands(mandate)) {
            return -1;
        }
        Model future = new Model();
        future.takeFrom(this);
        for (int days = 1; days <= 40; days++) {
            future.passOneDay();
            if (!future.stands(mandate)) {
                return days;
            }
        }
        return -1;
    }

    double usedShare(int mandate) {
        bounds(isMandate(mandate));
        return (double) sum(mandate) / mandates.get(mandate).period;
    }

    long digest() {
        List<Long> values = new ArrayList<>();
        for (int what = 0; what < 12; what++) {
            values.add((long) count(what));
        }
        values.add((long) settings[0]);
        values.add((long) settings[1]);
        for (int number = 0; number < mandates.size(); number++) {
            for (int what = 0; what < 12; what++) {
                values.add((long) mandate(number, what));
            }
            values.add((long) whyNot(number, 100));
            values.add((long) room(number, false));
            values.add((long) room(number, true));
            values.add((long) under(number));
            values.add((long) narrowest(number));
            values.add((long) lapsesIn(number));
            values.add(Double.doubleToLongBits(usedShare(number)));
        }
        for (int number = 0; number < requests.size(); number++) {
            for (int what = 0; what < 7; what++) {
                values.add((long) request(number, what));
            }
        }
        for (int number = 0; number < 8; number++) {
            for (int what = 0; what < 4; what++) {
                values.add((long) person(number, what));
            }
        }
        values.add((long) buffer.length());
        for (char code : buffer.toString().toCharArray()) {
            values.add((long) code);
        }
        long hash = 2543;
        for (long value : values) {
            hash = 31 * hash + value;
        }
        return hash;
    }

    // ---- what they share

    /** Answers how many mandates lapse. */
    private int passOneDay() {
        day++;
        int lapsed = 0;
        for (Request tooLate = tooLate(); tooLate != null; tooLate = tooLate()) {
            requests.remove(tooLate);
            lapsed += stands(tooLate.mandate) ? lapse(tooLate.mandate) : 0;
        }
        return lapsed;
    }

    private static boolean in(int value, int least, int most) {
        return least <= value && value <= most;
    }

    private static void bounds(boolean holds) {
        if (!holds) {
            throw new IndexOutOfBoundsException();
        }
    }

    private static void argument(boolean holds) {
        if (!holds) {
            throw new IllegalArgumentException();
        }
    }

    private static void state(boolean holds) {
        if (!holds) {
            throw new IllegalStateException();
        }
    }

    private boolean isMandate(int number) {
        return in(number, 0, mandates.size() - 1);
    }

    private boolean isRequest(int number) {
        return in(number, 0, requests.size() - 1);
    }

    private boolean stands(int mandate) {
        return mandates.get(mandate).lapsedOn == -1;
    }

    private List<Integer> chain(int mandate) {
        List<Integer> chain = new ArrayList<>();
        for (int link = mandate; link != -1; link = mandates.get(link).upper) {
            chain.add(link);
        }
        return chain;
    }

    private int sum(int mandate) {
        int sum = 0;
        for (Spending spending : spendings) {
            if (spending.day / 10 == day / 10 && chain(spending.mandate).contains(mandate)) {
                sum += spending.amount;
            }
        }
        return sum;
    }

    private int why(int mandate, int amount) {
        if (!stands(mandate)) {
            return 1;
        }
        if (amount > mandates.get(mandate).each) {
            return 2;
        }
        for (int link : chain(mandate)) {
            if (sum(link) + amount > mandates.get(link).period) {
                return 3;
            }
        }
        return 0;
    }

    private boolean mayApprove(Request request, int person) {
        boolean isAbove = false;
        for (int link : chain(request.mandate)) {
            isAbove |= link != request.mandate && mandates.get(link).holder == person;
        }
        return isAbove && mandates.get(request.mandate).holder != person && !request.approvers.contains(person);
    }

    private int lapse(int mandate) {
        List<Integer> lapsing = new ArrayList<>();
        for (int other = 0; other < mandates.size(); other++) {
            if (stands(other) && chain(other).contains(mandate)) {
                lapsing.add(other);
            }
        }
        for (int other : lapsing) {
            mandates.get(other).lapsedOn = day;
        }
        int before = requests.size();
        requests.removeIf(request -> !request.isUrgent && lapsing.contains(request.mandate));
        dropped += before - requests.size();
        return lapsing.size();
    }

    private Request tooLate() {
        for (Request request : requests) {
            if (request.isUrgent && day > request.day + settings[0]) {
                return request;
            }
        }
        return null;
    }

    private void checkSpend(int mandate, int amount) {
        bounds(isMandate(mandate));
        argument(in(amount, 1, 9999));
        state(why(mandate, amount) == 0);
        state(mandates.get(mandate).needed == 0 || requests.size() < 6);
    }

    private void checkUrge(int mandate, int amount) {
        checkSpend(mandate, amount);
        state(amount <= mandates.get(mandate).each / 2);
    }

    private int doSpend(int mandate, int amount) {
        if (mandates.get(mandate).needed == 0) {
            record(mandate, amount, false);
            return 0;
        }
        ask(mandate, amount, false);
        return 1;
    }

    private int doUrge(int mandate, int amount) {
        record(mandate, amount, true);
        if (mandates.get(mandate).needed == 0) {
            return 0;
        }
        ask(mandate, amount, true);
        return 1;
    }

    private void record(int mandate, int amount, boolean isUrgent) {
        Spending spending = new Spending();
        spending.mandate = mandate;
        spending.amount = amount;
        spending.day = day;
        spending.isUrgent = isUrgent;
        spendings.add(spending);
    }

    private void ask(int mandate, int amount, boolean isUrgent) {
        Request request = new Request();
        request.mandate = mandate;
        request.amount = amount;
        request.day = day;
        request.isUrgent = isUrgent;
        request.needed = mandates.get(mandate).needed;
        requests.add(request);
    }

    private void save() {
        Model copy = new Model();
        copy.takeFrom(this);
        saved.add(copy);
        if (saved.size() > 6) {
            saved.remove(0);
        }
    }

    /** All but the buffer and the saved states, as copies. */
    private void takeFrom(Model other) {
        mandates = new ArrayList<>();
        for (Mandate mandate : other.mandates) {
            Mandate copy = new Mandate();
            copy.upper = mandate.upper;
            copy.holder = mandate.holder;
            copy.each = mandate.each;
            copy.period = mandate.period;
            copy.needed = mandate.needed;
            copy.lapsedOn = mandate.lapsedOn;
            mandates.add(copy);
        }
        requests = new ArrayList<>();
        for (Request request : other.requests) {
            Request copy = new Request();
            copy.mandate = request.mandate;
            copy.amount = request.amount;
            copy.day = request.day;
            copy.isUrgent = request.isUrgent;
            copy.needed = request.needed;
            copy.approvers = new ArrayList<>(request.approvers);
            requests.add(copy);
        }
        spendings = new ArrayList<>(other.spendings);
        approvals = Arrays.copyOf(other.approvals, 8);
        settings = Arrays.copyOf(other.settings, 2);
        day = other.day;
        dropped = other.dropped;
        late = other.late;
    }
}
