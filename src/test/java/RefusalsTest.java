import java.util.function.Consumer;
import java.util.function.IntFunction;
import java.util.function.Supplier;

/**
 * "A call that throws an exception changes nothing. If several exceptions apply, the one that is named first in the
 * throws clause is thrown." For each call that can throw: every mixture of arguments at and beyond the ends of their
 * ranges, with states that refuse it and that do not. All throws clauses name the exceptions in the same order.
 */
public final class RefusalsTest {
    private static final int MIN = Integer.MIN_VALUE;
    private static final int MAX = Integer.MAX_VALUE;
    private static final int[] UNIT_NUMBERS = {MIN, -1, 0, 1, 2, 3, 4, 5, 6, 7, 8, 9, 10, 11, 12, 19, 20, 21, MAX};
    private static final int[] ROUTES = {MIN, -1, 0, 1, 2, 3, 4, 5, MAX};

    /** What stands in the way of the units 0 to 11 of fullDesk() on the routes 1 to 4; the others are not tested. */
    private static final int[][] OBSTACLES = {
        {0, 0, 0, 2}, {1, 1, 1, 1}, {1, 1, 1, 1}, {1, 1, 1, 1}, {1, 1, 1, 1}, {3, 3, 3, 2},
        {2, 2, 2, 0}, {2, 2, 2, 0}, {0, 4, 0, 2}, {4, 0, 0, 2}, {5, 0, 0, 2}, {1, 1, 1, 1}};
    private static final int[] NOT_TESTED = {3, 3, 3, 2};

    private static final Checks checks = new Checks();

    public static void main(String[] args) {
        product();
        recall();
        agree();
        limit();
        set();
        receive();
        test();
        send();
        pass();
        claim();
        append();
        receiveAll();
        undo();
        looks();
        looksAtUnits();
        looksAtPlaces();
        unitsThatAreNoMore();
        checks.end();
    }

    /** What has to be thrown when these apply; null when none does. */
    private static Class<? extends RuntimeException> first(boolean noIndex, boolean noArgument, boolean noState) {
        if (noIndex) {
            return IndexOutOfBoundsException.class;
        }
        if (noArgument) {
            return IllegalArgumentException.class;
        }
        return noState ? IllegalStateException.class : null;
    }

    private static boolean isOutside(int number, int lowest, int highest) {
        return number < lowest || number > highest;
    }

    /** The ends of a range, what lies just beyond them, and the ends of all numbers. */
    private static int[] around(int lowest, int highest) {
        return new int[] {MIN, lowest - 1, lowest, highest, highest + 1, MAX};
    }

    private static boolean isOneOf(int number, int... numbers) {
        for (int one : numbers) {
            if (one == number) {
                return true;
            }
        }
        return false;
    }

    private static String call(String name, int... arguments) {
        StringBuilder text = new StringBuilder(name).append('(');
        for (int i = 0; i < arguments.length; i++) {
            text.append(i == 0 ? "" : ", ").append(arguments[i]);
        }
        return text.append(')').toString();
    }

    /** On the full desk; without exceptions that go by the state. */
    private static void dueOnFull(String call, boolean noIndex, boolean noArgument, Consumer<ReturnGrades> run) {
        checks.dueOf(call, RefusalsTest::fullDesk, first(noIndex, noArgument, false), run);
    }

    /**
     * Twenty units and six saved states, with claims that wait, a workshop, and a text with an error. Unit 0 has grade
     * 1 and a claim that is paid, 1 is in the workshop, 2 is sold, 3 scrapped with a claim that waits, 4 sent back, 5
     * not tested, 6 held, 7 held and not tested, 8 has grade 3, 9 grade 0, 10 was in the workshop twice, 11 is there
     * held with a claim that waits; 12 to 19 are not tested.
     */
    private static ReturnGrades fullDesk() {
        ReturnGrades desk = Checks.deskWith("p0r0:5555;p0r1:1111;p0r2:9999;p0r3:5555;p1r0:3333;p0r0");
        Checks.add(desk, "p1r1:5555;p1r2;p0r3:1111;p0r0:9999;p0r1:5555;p2r2:1111");
        desk.limit(0, 15);
        desk.send(10, 1);
        desk.pass(1);
        desk.send(10, 1);
        desk.pass(1);
        desk.send(11, 1);
        desk.send(2, 2);
        desk.claim(3);
        for (int unit = 12; unit < 20; unit++) {
            desk.receive(3, 3);
        }
        desk.recall(2, true);
        desk.send(3, 3);
        desk.limit(0, 40);
        desk.recall(1, true);
        desk.send(4, 4);
        desk.claim(11);
        desk.claim(0);
        desk.send(1, 1);
        Checks.type(desk, "p0r0;p6");
        return desk;
    }

    /** So many new units, and a saved state for each, but six at most. */
    private static ReturnGrades deskOf(int units) {
        ReturnGrades desk = new ReturnGrades();
        for (int unit = 0; unit < units; unit++) {
            desk.receive(unit % 6, unit % 4);
        }
        return desk;
    }

    private static void product() {
        for (int product : around(0, 5)) {
            for (int vendor : around(0, 3)) {
                for (int cost : around(1, 9999)) {
                    boolean noIndex = isOutside(product, 0, 5) || isOutside(vendor, 0, 3);
                    dueOnFull(call("2: product", product, cost, vendor), noIndex, isOutside(cost, 1, 9999),
                        desk -> desk.product(product, cost, vendor));
                }
            }
        }
    }

    private static void recall() {
        for (int product : around(0, 5)) {
            boolean noIndex = isOutside(product, 0, 5);
            dueOnFull(call("3: recall", product), noIndex, false, desk -> desk.recall(product, true));
            dueOnFull(call("3: recall no more", product), noIndex, false, desk -> desk.recall(product, false));
        }
    }

    private static void agree() {
        for (int vendor : around(0, 3)) {
            for (int reason : around(0, 3)) {
                for (int percent : around(0, 100)) {
                    boolean noIndex = isOutside(vendor, 0, 3) || isOutside(reason, 0, 3);
                    dueOnFull(call("4: agree", vendor, reason, percent), noIndex, isOutside(percent, 0, 100),
                        desk -> desk.agree(vendor, reason, percent));
                }
            }
        }
    }

    private static void limit() {
        for (int vendor : around(0, 3)) {
            for (int limit : around(0, 99999)) {
                dueOnFull(call("5: limit", vendor, limit), isOutside(vendor, 0, 3), isOutside(limit, 0, 99999),
                    desk -> desk.limit(vendor, limit));
            }
        }
    }

    private static void set() {
        int[] lowest = {0, 0, 0, 1, 0};
        int[] highest = {36, 36, 36, 5, 20};
        for (int setting = 0; setting < 5; setting++) {
            for (int value : around(lowest[setting], highest[setting])) {
                int number = setting;
                dueOnFull(call("6: set", setting, value), false, isOutside(value, lowest[setting], highest[setting]),
                    desk -> desk.set(number, value));
            }
        }
        for (int setting : new int[] {MIN, -1, 5, MAX}) {
            for (int value : new int[] {MIN, -1, 0, 1, 37, MAX}) {
                dueOnFull(call("6: set", setting, value), true, true, desk -> desk.set(setting, value));
            }
        }
    }

    private static void receive() {
        for (int units : new int[] {0, 18, 19, 20}) {
            for (int product : around(0, 5)) {
                for (int reason : around(0, 3)) {
                    boolean noIndex = isOutside(product, 0, 5) || isOutside(reason, 0, 3);
                    checks.dueOf("7: " + units + " units, " + call("receive", product, reason), () -> deskOf(units),
                        first(noIndex, false, units == 20), desk -> desk.receive(product, reason));
                }
            }
        }
        checks.dueOf("7: the full desk", RefusalsTest::fullDesk, IllegalStateException.class,
            desk -> desk.receive(0, 0));
    }

    private static void test() {
        for (int unit : UNIT_NUMBERS) {
            for (int test : around(0, 3)) {
                for (int score : around(0, 9)) {
                    boolean noIndex = isOutside(unit, 0, 19) || isOutside(test, 0, 3);
                    boolean noState = isOneOf(unit, 1, 2, 3, 4, 11);
                    checks.dueOf(call("8: test", unit, test, score), RefusalsTest::fullDesk,
                        first(noIndex, isOutside(score, 0, 9), noState), desk -> desk.test(unit, test, score));
                }
            }
        }
    }

    private static int obstacle(int unit, int route) {
        return unit < OBSTACLES.length ? OBSTACLES[unit][route - 1] : NOT_TESTED[route - 1];
    }

    private static void send() {
        for (int unit : UNIT_NUMBERS) {
            for (int route : ROUTES) {
                boolean noIndex = isOutside(unit, 0, 19);
                boolean noArgument = isOutside(route, 1, 4);
                boolean noState = !noIndex && !noArgument && obstacle(unit, route) != 0;
                checks.dueOf(call("9: send", unit, route), RefusalsTest::fullDesk, first(noIndex, noArgument, noState),
                    desk -> desk.send(unit, route));
                dueOnFull(call("25: whyNot", unit, route), noIndex, noArgument, desk -> desk.whyNot(unit, route));
                if (!noIndex && !noArgument) {
                    checks.due(call("25: whyNot", unit, route), fullDesk().whyNot(unit, route), obstacle(unit, route));
                }
            }
        }
    }

    private static ReturnGrades deskOnDay(int day) {
        ReturnGrades desk = Checks.deskWith("p0r0:1111;p0r0:5555;p1r0");
        for (int left = day; left > 0; left -= 30) {
            desk.pass(Math.min(left, 30));
        }
        desk.send(0, 1);
        desk.send(1, 1);
        return desk;
    }

    private static void pass() {
        for (int day : new int[] {0, 1969, 1970, 1971, 1998, 1999, 2000}) {
            for (int days : new int[] {MIN, -30, -1, 0, 1, 2, 29, 30, 31, 2000, MAX}) {
                boolean noState = (long) day + days > 2000;
                checks.dueOf("10: on the day " + day + ", " + call("pass", days), () -> deskOnDay(day),
                    first(false, isOutside(days, 1, 30), noState), desk -> desk.pass(days));
            }
        }
    }

    /** Those that come to an end, were claimed for, or are not tested; and more than one of these at once. */
    private static void claim() {
        for (int unit : UNIT_NUMBERS) {
            boolean noState = !isOneOf(unit, 1, 6, 8, 9, 10);
            checks.dueOf(call("11: claim", unit), RefusalsTest::fullDesk, first(isOutside(unit, 0, 19), false, noState),
                desk -> desk.claim(unit));
        }
        checks.dueOf("11: sent back and not tested", () -> {
            ReturnGrades desk = fullDesk();
            desk.send(7, 4);
            return desk;
        }, IllegalStateException.class, desk -> desk.claim(7));
        checks.dueOf("11: sold behind a claim that was paid", () -> {
            ReturnGrades desk = fullDesk();
            desk.send(0, 2);
            return desk;
        }, IllegalStateException.class, desk -> desk.claim(0));
    }

    private static void append() {
        for (int length : new int[] {0, 1, 59, 60}) {
            for (int code : new int[] {MIN, -1, 0, 10, 32, 33, 48, 112, 126, 127, 128, 256 + 'p', MAX}) {
                Supplier<ReturnGrades> maker = () -> {
                    ReturnGrades desk = deskOf(7);
                    Checks.type(desk, "p0r0:1234;".repeat(6).substring(0, length));
                    return desk;
                };
                checks.dueOf("13: " + length + " characters, " + call("append", code), maker,
                    first(false, isOutside(code, 33, 126), length == 60), desk -> desk.append(code));
            }
        }
    }

    private static void receiveAll() {
        String[] complete = {"p0r0", "p5r3:0099", "p0r0;p0r0", "p0r0:1234;p0r0", "p0r0;p1r1;p2r2:9999"};
        int[] units = {1, 1, 2, 2, 3};
        String[] others = {"", "p", "p0", "p0r", "p0r0;", "p0r0:", "p0r0:123", "p0r0:1234;", "p0r0;p0r0;p0r0;p0r0;",
            "x", "p6r0", "p0r4", "p0r0x", "p0r0:12345", "p0r0,p0r0", ";p0r0", "p0r0;;p0r0", "p0r0;p0r0;x"};
        for (int there : new int[] {0, 17, 18, 19, 20}) {
            for (int i = 0; i < complete.length; i++) {
                dueOfText(there, complete[i], first(false, false, there + units[i] > 20));
            }
            for (String text : others) {
                dueOfText(there, text, IllegalArgumentException.class);
            }
        }
    }

    private static void dueOfText(int there, String text, Class<? extends RuntimeException> want) {
        Supplier<ReturnGrades> maker = () -> {
            ReturnGrades desk = deskOf(there);
            Checks.type(desk, text);
            return desk;
        };
        checks.dueOf("16: " + there + " units, " + text, maker, want, ReturnGrades::receiveAll);
    }

    private static void undo() {
        checks.dueOf("17: a new desk", ReturnGrades::new, IllegalStateException.class, ReturnGrades::undo);
        checks.dueOf("17: behind calls that save nothing", () -> {
            ReturnGrades desk = new ReturnGrades();
            Checks.type(desk, "p0r");
            desk.firstError();
            desk.clearBuffer();
            Checks.type(desk, "p0x");
            return desk;
        }, IllegalStateException.class, ReturnGrades::undo);
        for (int changes : new int[] {1, 5, 6, 7}) {
            checks.dueOf("17: behind " + changes + " changes, all undone", () -> {
                ReturnGrades desk = deskOf(changes);
                for (int i = Math.min(changes, 6); i > 0; i--) {
                    desk.undo();
                }
                return desk;
            }, IllegalStateException.class, ReturnGrades::undo);
        }
        checks.dueOf("17: a saved state", RefusalsTest::fullDesk, null, ReturnGrades::undo);
    }

    private static void looks() {
        for (int product : around(0, 5)) {
            for (int what : around(0, 5)) {
                dueOnFull(call("19: productOf", product, what), isOutside(product, 0, 5), isOutside(what, 0, 5),
                    desk -> desk.productOf(product, what));
            }
        }
        for (int vendor : around(0, 3)) {
            for (int what : around(0, 9)) {
                dueOnFull(call("20: vendor", vendor, what), isOutside(vendor, 0, 3), isOutside(what, 0, 9),
                    desk -> desk.vendor(vendor, what));
            }
        }
        for (int what : around(0, 13)) {
            dueOnFull(call("23: count", what), false, isOutside(what, 0, 13), desk -> desk.count(what));
        }
        for (int setting : around(0, 4)) {
            dueOnFull(call("24: setting", setting), isOutside(setting, 0, 4), false, desk -> desk.setting(setting));
        }
    }

    private static void looksAtPlaces() {
        for (int place : around(0, 19)) {
            boolean noPlace = isOutside(place, 0, 19);
            dueOnFull(call("21: inWorkshop", place), false, noPlace, desk -> desk.inWorkshop(place));
            dueOnFull(call("22: waiting", place), false, noPlace, desk -> desk.waiting(place));
            checks.dueOf(call("21: nothing there, inWorkshop", place), ReturnGrades::new, first(false, noPlace, false),
                desk -> desk.inWorkshop(place));
            checks.dueOf(call("22: nothing waits, waiting", place), ReturnGrades::new, first(false, noPlace, false),
                desk -> desk.waiting(place));
        }
    }

    private static void looksAtUnits() {
        for (int unit : UNIT_NUMBERS) {
            boolean noIndex = isOutside(unit, 0, 19);
            for (int what : around(0, 13)) {
                dueOnFull(call("18: unit", unit, what), noIndex, isOutside(what, 0, 13),
                    desk -> desk.unit(unit, what));
            }
            for (int what : around(0, 2)) {
                dueOnFull(call("26: ifRepaired", unit, what), noIndex, isOutside(what, 0, 2),
                    desk -> desk.ifRepaired(unit, what));
            }
            dueOnFull(call("27: bestRoute", unit), noIndex, false, desk -> desk.bestRoute(unit));
            dueOnFull(call("29: claimable", unit), noIndex, false, desk -> desk.claimable(unit));
        }
    }

    /** The number behind the last unit is no unit: on a new desk, between units, and where an undo took one away. */
    private static void unitsThatAreNoMore() {
        dueNoUnit("a new desk", ReturnGrades::new, 0);
        dueNoUnit("one unit", () -> deskOf(1), 1);
        dueNoUnit("19 units", () -> deskOf(19), 19);
        dueNoUnit("20 units, one undone", () -> {
            ReturnGrades desk = deskOf(20);
            desk.undo();
            return desk;
        }, 19);
        dueNoUnit("a text with two units, undone", () -> {
            ReturnGrades desk = Checks.deskWith("p0r0:5555;p0r0:5555");
            desk.undo();
            return desk;
        }, 0);
    }

    private static void dueNoUnit(String name, Supplier<ReturnGrades> maker, int unit) {
        Class<IndexOutOfBoundsException> index = IndexOutOfBoundsException.class;
        IntFunction<String> label = promise -> promise + ": no unit " + unit + " on " + name;
        checks.dueOf(label.apply(8), maker, index, desk -> desk.test(unit, 0, 10));
        checks.dueOf(label.apply(9), maker, index, desk -> desk.send(unit, 5));
        checks.dueOf(label.apply(11), maker, index, desk -> desk.claim(unit));
        checks.dueOf(label.apply(18), maker, index, desk -> desk.unit(unit, 14));
        checks.dueOf(label.apply(25), maker, index, desk -> desk.whyNot(unit, 0));
        checks.dueOf(label.apply(26), maker, index, desk -> desk.ifRepaired(unit, 3));
        checks.dueOf(label.apply(27), maker, index, desk -> desk.bestRoute(unit));
        checks.dueOf(label.apply(29), maker, index, desk -> desk.claimable(unit));
    }
}
