import java.util.ArrayDeque;
import java.util.ArrayList;
import java.util.Arrays;
import java.util.Comparator;
import java.util.Deque;
import java.util.List;
import java.util.regex.Matcher;
import java.util.regex.Pattern;

/** The document once more, with the Java library and another way to hold the state: answers are compared with it. */
final class Model {
    private static final int NONE = -1;
    private static final String ONE = "p[0-5]r[0-3](:[0-9]{4})?";
    private static final Pattern RETURNS = Pattern.compile(ONE + "(;" + ONE + ")*");
    private static final int[] LOWEST = {0, 0, 0, 1, 0};
    private static final int[] HIGHEST = {36, 36, 36, 5, 20};
    private static final int[] PRICES = {90, 70, 40};

    private static final class Unit {
        int number;
        int product;
        int reason;
        int place;
        int visits;
        int brought;
        int workCost;
        Integer claim;
        int claimVendor;
        boolean paid;
        Integer[] scores = new Integer[4];

        Unit copy() {
            Unit copy = new Unit();
            copy.number = number;
            copy.product = product;
            copy.reason = reason;
            copy.place = place;
            copy.visits = visits;
            copy.brought = brought;
            copy.workCost = workCost;
            copy.claim = claim;
            copy.claimVendor = claimVendor;
            copy.paid = paid;
            copy.scores = scores.clone();
            return copy;
        }

        boolean tested() {
            return !Arrays.asList(scores).contains(null);
        }

        boolean ended() {
            return place > 1;
        }
    }

    private static final class State {
        int[] costs = {100, 100, 100, 100, 100, 100};
        int[] vendors = new int[6];
        boolean[] recalled = new boolean[6];
        int[] percents = new int[16];
        int[] limits = {1000, 1000, 1000, 1000};
        int[] inPeriod = new int[4];
        int[] forClaims = new int[4];
        int[] forUnits = new int[4];
        int[] settings = {30, 20, 10, 2, 3};
        List<Unit> units = new ArrayList<>();
        int day;
        int periods;
        int sales;
        int fromVendors;
        int workshop;
        int claims;

        State() {
            Arrays.fill(percents, 50);
        }

        State copy() {
            State copy = new State();
            copy.costs = costs.clone();
            copy.vendors = vendors.clone();
            copy.recalled = recalled.clone();
            copy.percents = percents.clone();
            copy.limits = limits.clone();
            copy.inPeriod = inPeriod.clone();
            copy.forClaims = forClaims.clone();
            copy.forUnits = forUnits.clone();
            copy.settings = settings.clone();
            for (Unit unit : units) {
                copy.units.add(unit.copy());
            }
            copy.day = day;
            copy.periods = periods;
            copy.sales = sales;
            copy.fromVendors = fromVendors;
            copy.workshop = workshop;
            copy.claims = claims;
            return copy;
        }
    }

    private State now = new State();
    private final Deque<State> saved = new ArrayDeque<>();
    private String buffer = "";

    private void save() {
        saved.addLast(now.copy());
        if (saved.size() > 6) {
            saved.removeFirst();
        }
    }

    private static void index(int number, int bound) {
        if (number < 0 || number >= bound) {
            throw new IndexOutOfBoundsException();
        }
    }

    private static void range(int number, int lowest, int highest) {
        if (number < lowest || number > highest) {
            throw new IllegalArgumentException();
        }
    }

    private static void state(boolean holds) {
        if (!holds) {
            throw new IllegalStateException();
        }
    }

    private Unit unitAt(int unit) {
        index(unit, now.units.size());
        return now.units.get(unit);
    }

    // ---- products, vendors

    int product(int product, int cost, int vendor) {
        index(product, 6);
        index(vendor, 4);
        range(cost, 1, 9999);
        save();
        int previous = now.costs[product];
        now.costs[product] = cost;
        now.vendors[product] = vendor;
        return previous;
    }

    int recall(int product, boolean is) {
        index(product, 6);
        save();
        now.recalled[product] = is;
        return count(6);
    }

    int agree(int vendor, int reason, int percent) {
        index(vendor, 4);
        index(reason, 4);
        range(percent, 0, 100);
        save();
        int previous = now.percents[vendor * 4 + reason];
        now.percents[vendor * 4 + reason] = percent;
        return previous;
    }

    int limit(int vendor, int limit) {
        index(vendor, 4);
        range(limit, 0, 99999);
        save();
        int previous = now.limits[vendor];
        now.limits[vendor] = limit;
        return previous;
    }

    int set(int setting, int value) {
        index(setting, 5);
        range(value, LOWEST[setting], HIGHEST[setting]);
        save();
        int previous = now.settings[setting];
        now.settings[setting] = value;
        return previous;
    }

    // ---- units

    int receive(int product, int reason) {
        index(product, 6);
        index(reason, 4);
        state(now.units.size() < 20);
        save();
        return come(product, reason).number;
    }

    private Unit come(int product, int reason) {
        Unit unit = new Unit();
        unit.number = now.units.size();
        unit.product = product;
        unit.reason = reason;
        now.units.add(unit);
        return unit;
    }

    int test(int unit, int test, int score) {
        unitAt(unit);
        index(test, 4);
        range(score, 0, 9);
        state(unitAt(unit).place == 0);
        save();
        unitAt(unit).scores[test] = score;
        return grade(unitAt(unit));
    }

    int send(int unit, int route) {
        unitAt(unit);
        range(route, 1, 4);
        state(whyNot(unit, route) == 0);
        save();
        Unit sent = unitAt(unit);
        sent.place = route;
        if (route == 1) {
            sent.visits++;
            return 0;
        }
        if (route == 2) {
            sent.brought = price(sent, grade(sent));
            now.sales += sent.brought;
        }
        if (route == 4) {
            sent.brought = now.costs[sent.product];
            now.forUnits[now.vendors[sent.product]] += sent.brought;
            now.fromVendors += sent.brought;
        }
        return sent.brought;
    }

    int pass(int days) {
        range(days, 1, 30);
        state(now.day + days <= 2000);
        save();
        int before = now.workshop;
        for (int i = 0; i < days; i++) {
            now.day++;
            List<Unit> open = workshop();
            open.removeIf(this::held);
            for (Unit unit : open.subList(0, Math.min(open.size(), now.settings[3]))) {
                repair(unit);
            }
        }
        return now.workshop - before;
    }

    private void repair(Unit unit) {
        int cost = repairCost(unit);
        unit.workCost += cost;
        now.workshop += cost;
        unit.scores = repaired(unit).scores;
        unit.place = 0;
    }

    // ---- claims

    int claim(int unit) {
        Unit claimed = unitAt(unit);
        state(!claimed.ended() && claimed.tested() && claimed.claim == null);
        save();
        claimed = unitAt(unit);
        claimed.claim = claimable(unit);
        claimed.claimVendor = now.vendors[claimed.product];
        now.claims++;
        return pay(claimed);
    }

    private int pay(Unit unit) {
        int vendor = unit.claimVendor;
        if (unit.claim + now.inPeriod[vendor] > now.limits[vendor]) {
            return 0;
        }
        unit.paid = true;
        now.inPeriod[vendor] += unit.claim;
        now.forClaims[vendor] += unit.claim;
        now.fromVendors += unit.claim;
        return 1;
    }

    int closePeriod() {
        save();
        now.periods++;
        int before = now.fromVendors;
        now.inPeriod = new int[4];
        for (Unit unit : waitingUnits()) {
            pay(unit);
        }
        return now.fromVendors - before;
    }

    // ---- texts

    int append(int code) {
        range(code, 33, 126);
        state(buffer.length() < 60);
        buffer += (char) code;
        return buffer.length();
    }

    int clearBuffer() {
        int length = buffer.length();
        buffer = "";
        return length;
    }

    int firstError() {
        for (int length = 1; length <= buffer.length(); length++) {
            Matcher matcher = RETURNS.matcher(buffer.substring(0, length));
            if (!matcher.matches() && !matcher.hitEnd()) {
                return length - 1;
            }
        }
        return buffer.length();
    }

    int receiveAll() {
        if (!RETURNS.matcher(buffer).matches()) {
            throw new IllegalArgumentException();
        }
        String[] parts = buffer.split(";");
        state(now.units.size() + parts.length <= 20);
        save();
        for (String part : parts) {
            Unit unit = come(part.charAt(1) - '0', part.charAt(3) - '0');
            for (int test = 0; test < 4 && part.length() > 4; test++) {
                unit.scores[test] = part.charAt(5 + test) - '0';
            }
        }
        buffer = "";
        return now.units.size();
    }

    int undo() {
        state(!saved.isEmpty());
        now = saved.removeLast();
        return saved.size();
    }

    // ---- looks

    int unit(int unit, int what) {
        Unit seen = unitAt(unit);
        range(what, 0, 13);
        if (what >= 2 && what <= 5) {
            Integer score = seen.scores[what - 2];
            return score == null ? NONE : score;
        }
        int[] all = {seen.product, seen.reason, 0, 0, 0, 0, grade(seen), seen.place, held(seen) ? 1 : 0, seen.visits,
            seen.claim == null ? NONE : seen.claim, seen.paid ? 1 : 0, seen.brought, seen.workCost};
        return all[what];
    }

    int productOf(int product, int what) {
        index(product, 6);
        range(what, 0, 5);
        int here = 0;
        int came = 0;
        int sold = 0;
        for (Unit unit : now.units) {
            if (unit.product == product) {
                came++;
                here += unit.ended() ? 0 : 1;
                sold += unit.place == 2 ? 1 : 0;
            }
        }
        int[] all = {now.costs[product], now.vendors[product], now.recalled[product] ? 1 : 0, came, here, sold};
        return all[what];
    }

    int vendor(int vendor, int what) {
        index(vendor, 4);
        range(what, 0, 9);
        if (what >= 6) {
            return now.percents[vendor * 4 + what - 6];
        }
        List<Unit> onIt = waitingUnits();
        onIt.removeIf(unit -> unit.claimVendor != vendor);
        int amounts = onIt.stream().mapToInt(unit -> unit.claim).sum();
        int[] all = {now.limits[vendor], now.inPeriod[vendor], now.forClaims[vendor], now.forUnits[vendor],
            onIt.size(), amounts};
        return all[what];
    }

    private static int numberAt(List<Unit> order, int place) {
        range(place, 0, 19);
        return place < order.size() ? order.get(place).number : NONE;
    }

    int inWorkshop(int place) {
        return numberAt(workshop(), place);
    }

    private List<Unit> workshop() {
        List<Unit> order = new ArrayList<>(now.units);
        order.removeIf(unit -> unit.place != 1);
        order.sort(Comparator.comparing((Unit unit) -> -grade(unit))
            .thenComparing(unit -> -now.costs[unit.product])
            .thenComparing(unit -> unit.number));
        return order;
    }

    int waiting(int place) {
        return numberAt(waitingUnits(), place);
    }

    private List<Unit> waitingUnits() {
        List<Unit> order = new ArrayList<>(now.units);
        order.removeIf(unit -> unit.claim == null || unit.paid);
        order.sort(Comparator.comparing((Unit unit) -> -unit.claim).thenComparing(unit -> unit.number));
        return order;
    }

    int count(int what) {
        range(what, 0, 13);
        if (what >= 1 && what <= 5) {
            return (int) now.units.stream().filter(unit -> unit.place == what - 1).count();
        }
        int heldUnits = (int) now.units.stream().filter(this::held).count();
        int[] all = {now.units.size(), 0, 0, 0, 0, 0, heldUnits, now.day, now.sales, now.fromVendors, now.workshop,
            now.periods, now.claims, saved.size()};
        return all[what];
    }

    int setting(int setting) {
        index(setting, 5);
        return now.settings[setting];
    }

    // ---- what would be

    private boolean held(Unit unit) {
        return !unit.ended() && now.recalled[unit.product];
    }

    private int grade(Unit unit) {
        if (!unit.tested()) {
            return NONE;
        }
        int sum = 0;
        boolean zero = false;
        for (int score : unit.scores) {
            sum += score;
            zero |= score == 0;
        }
        int grade = sum >= now.settings[0] ? 0 : sum >= now.settings[1] ? 1 : sum >= now.settings[2] ? 2 : 3;
        return zero && grade < 2 ? 2 : grade;
    }

    private int price(Unit unit, int grade) {
        return grade == 3 ? 0 : now.costs[unit.product] * PRICES[grade] / 100;
    }

    private static Unit repaired(Unit unit) {
        Unit behind = unit.copy();
        for (int test = 0; test < 4; test++) {
            behind.scores[test] = behind.scores[test] < 7 ? 7 : behind.scores[test];
        }
        return behind;
    }

    private int repairCost(Unit unit) {
        int points = 0;
        for (int score : unit.scores) {
            points += score < 7 ? 7 - score : 0;
        }
        return points * now.settings[4];
    }

    int whyNot(int unit, int route) {
        Unit seen = unitAt(unit);
        range(route, 1, 4);
        if (seen.place != 0) {
            return 1;
        }
        if (route == 4) {
            return held(seen) ? 0 : 2;
        }
        if (held(seen)) {
            return 2;
        }
        if (!seen.tested()) {
            return 3;
        }
        if (route == 1 && grade(seen) <= 0 || route == 2 && grade(seen) >= 3) {
            return 4;
        }
        return route == 1 && seen.visits > 1 ? 5 : 0;
    }

    int ifRepaired(int unit, int what) {
        Unit seen = unitAt(unit);
        range(what, 0, 2);
        if (!seen.tested()) {
            return NONE;
        }
        int grade = grade(repaired(seen));
        return what == 0 ? grade : what == 1 ? repairCost(seen) : price(seen, grade);
    }

    int bestRoute(int unit) {
        Unit seen = unitAt(unit);
        int best = NONE;
        int most = Integer.MIN_VALUE;
        for (int route = 1; route <= 4; route++) {
            if (whyNot(unit, route) != 0) {
                continue;
            }
            int money = route == 1 ? ifRepaired(unit, 2) - ifRepaired(unit, 1)
                : route == 2 ? price(seen, grade(seen)) : route == 3 ? 0 : now.costs[seen.product];
            if (money > most) {
                best = route;
                most = money;
            }
        }
        return best;
    }

    int ifClosed() {
        int[] rest = now.limits.clone();
        int paid = 0;
        for (Unit unit : waitingUnits()) {
            if (unit.claim <= rest[unit.claimVendor]) {
                rest[unit.claimVendor] -= unit.claim;
                paid += unit.claim;
            }
        }
        return paid;
    }

    int claimable(int unit) {
        Unit seen = unitAt(unit);
        if (!seen.tested()) {
            return NONE;
        }
        int percent = now.percents[now.vendors[seen.product] * 4 + seen.reason];
        return now.costs[seen.product] * percent / 100 * grade(seen) / 3;
    }

    int workDays() {
        List<Unit> open = workshop();
        open.removeIf(this::held);
        int days = 0;
        for (int left = open.size(); left > 0; left -= now.settings[3]) {
            days++;
        }
        return days;
    }

    double backShare() {
        double costs = 0;
        for (Unit unit : now.units) {
            costs += now.costs[unit.product];
        }
        return now.units.isEmpty() ? 0.0 : (double) (now.sales + now.fromVendors - now.workshop) / costs;
    }

    long digest() {
        List<Long> values = new ArrayList<>();
        for (int what = 0; what <= 13; what++) {
            values.add((long) count(what));
        }
        for (int setting : now.settings) {
            values.add((long) setting);
        }
        for (Unit unit : now.units) {
            addUnit(values, unit.number);
        }
        for (int product = 0; product < 6; product++) {
            for (int what = 0; what <= 5; what++) {
                values.add((long) productOf(product, what));
            }
        }
        for (int vendor = 0; vendor < 4; vendor++) {
            for (int what = 0; what <= 9; what++) {
                values.add((long) vendor(vendor, what));
            }
        }
        for (int place = 0; place <= 2; place++) {
            values.add((long) inWorkshop(place));
        }
        for (int place = 0; place <= 2; place++) {
            values.add((long) waiting(place));
        }
        values.add((long) ifClosed());
        values.add((long) workDays());
        values.add(Double.doubleToLongBits(backShare()));
        values.add((long) buffer.length());
        for (char code : buffer.toCharArray()) {
            values.add((long) code);
        }
        long hash = 2477;
        for (long value : values) {
            hash = 31 * hash + value;
        }
        return hash;
    }

    private void addUnit(List<Long> values, int unit) {
        for (int what = 0; what <= 13; what++) {
            values.add((long) unit(unit, what));
        }
        for (int route = 1; route <= 4; route++) {
            values.add((long) whyNot(unit, route));
        }
        for (int what = 0; what <= 2; what++) {
            values.add((long) ifRepaired(unit, what));
        }
        values.add((long) bestRoute(unit));
        values.add((long) claimable(unit));
    }
}
