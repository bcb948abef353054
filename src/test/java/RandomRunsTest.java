/**
 * Runs of calls with any arguments, the same at each time: nothing but the named exceptions is thrown, a call that
 * throws changes nothing, undo brings back what was, and answers that have to agree do.
 */
public final class RandomRunsTest {
    private static final int RUNS = 560;
    private static final int STEPS = 50;
    private static final int[] ODD = {-1, Integer.MIN_VALUE, Integer.MAX_VALUE, 4, 5, 6, 7, 20, 60, 100};

    private static final Checks checks = new Checks();

    private ReturnGrades desk = new ReturnGrades();
    private long seed;

    private RandomRunsTest(long seed) {
        this.seed = seed;
    }

    public static void main(String[] args) {
        for (int run = 0; run < RUNS; run++) {
            new RandomRunsTest(run * 7919L + 17).run();
        }
        checks.end();
    }

    private int below(int bound) {
        seed = seed * 6364136223846793005L + 1442695040888963407L;
        return (int) ((seed >>> 33) % bound);
    }

    /** Mostly a number below the bound, at times one that may be wrong. */
    private int number(int bound) {
        return below(12) == 0 ? ODD[below(ODD.length)] : below(bound);
    }

    /** Nine calls a step at the most, and 52 before the first: within the 512 of an object. */
    private void run() {
        for (int unit = 0; unit < 5; unit++) {
            String scores = "" + (below(9) + 1) + (below(9) + 1) + below(10) + below(10);
            Checks.type(desk, "p" + below(3) + "r" + below(4) + ":" + scores);
            desk.receiveAll();
        }
        desk.product(below(3), below(500) + 1, below(4));
        desk.limit(below(4), below(100));
        for (int step = 0; step < STEPS; step++) {
            step();
        }
    }

    private void step() {
        long before = desk.digest();
        int saved = desk.count(13);
        boolean thrown = false;
        boolean undoable = true;
        try {
            undoable = call(below(20));
        } catch (RuntimeException e) {
            thrown = true;
            if (e.getClass() != IndexOutOfBoundsException.class && e.getClass() != IllegalArgumentException.class
                    && e.getClass() != IllegalStateException.class) {
                checks.fault("a call threw " + e);
            }
        }
        if (thrown) {
            checks.due("the digest behind a call that throws", desk.digest(), before);
        } else if (undoable && saved < 6 && below(3) == 0) {
            checks.due("the states left", desk.undo(), saved);
            checks.due("the digest behind undo", desk.digest(), before);
        }
    }

    /** Makes a call, and answers whether it is undoable and leaves the buffer alone. */
    private boolean call(int kind) {
        switch (kind) {
            case 0: desk.product(number(6), number(300), number(4)); return true;
            case 1: desk.recall(number(6), below(4) == 0); return true;
            case 2: desk.agree(number(4), number(4), number(101)); return true;
            case 3: desk.limit(number(4), number(300)); return true;
            case 4: desk.set(number(5), number(36)); return true;
            case 5: desk.receive(number(6), number(4)); return true;
            case 6: case 7: case 8: desk.test(number(5), number(4), number(10)); return true;
            case 9: case 10: case 11: case 12: send(); return true;
            case 13: pass(); return true;
            case 14: case 15: claim(); return true;
            case 16: close(); return true;
            case 17: desk.append(number(127)); return false;
            case 18: look(); return false;
            default: desk.undo(); return false;
        }
    }

    private void send() {
        int unit = number(6);
        int route = desk.bestRoute(unit);
        if (route == ReturnGrades.NONE || below(2) == 0) {
            route = number(5);
        }
        boolean fits = desk.whyNot(unit, route) == 0;
        int money = desk.send(unit, route);
        checks.due("a unit is sent though whyNot() tells why not", fits ? 1 : 0, 1);
        checks.due("the place of a unit that was sent", desk.unit(unit, 7), route);
        checks.due("what it brought", desk.unit(unit, 12), money);
    }

    private void pass() {
        int work = desk.workDays();
        int cost = desk.count(10);
        int days = number(4);
        int paid = desk.pass(days);
        checks.due("the cost of the workshop", desk.count(10), cost + paid);
        checks.due("the days that are left", desk.workDays(), Math.max(0, work - days));
    }

    private void claim() {
        int unit = number(6);
        int amount = desk.claimable(unit);
        int money = desk.count(9);
        int paid = desk.claim(unit);
        checks.due("the amount of a claim", desk.unit(unit, 10), amount);
        checks.due("the money by vendors", desk.count(9), money + paid * amount);
    }

    private void close() {
        int due = desk.ifClosed();
        checks.due("what closing pays", desk.closePeriod(), due);
    }

    private void look() {
        switch (below(10)) {
            case 0: desk.unit(number(8), number(14)); break;
            case 1: desk.productOf(number(6), number(6)); break;
            case 2: desk.vendor(number(4), number(10)); break;
            case 3: desk.inWorkshop(number(20)); break;
            case 4: desk.waiting(number(20)); break;
            case 5: desk.count(number(14)); break;
            case 6: desk.setting(number(5)); break;
            case 7: desk.ifRepaired(number(6), number(3)); break;
            case 8: desk.firstError(); break;
            default: desk.receiveAll(); break;
        }
    }
}
