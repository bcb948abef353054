/** Promises 25 to 32: what would be, and the digest. */
public final class ForecastsTest {
    private static final Class<IndexOutOfBoundsException> INDEX = IndexOutOfBoundsException.class;
    private static final Class<IllegalArgumentException> ARGUMENT = IllegalArgumentException.class;
    private static final int NONE = ReturnGrades.NONE;

    private static final Checks checks = new Checks();

    public static void main(String[] args) {
        whyNot();
        whyNotBehindTwoVisits();
        ifRepaired();
        bestRoute();
        ifClosed();
        claimable();
        workDays();
        backShare();
        digest();
        digestOfShares();
        checks.end();
    }

    private static void dueReasons(String name, ReturnGrades desk, int unit, int... due) {
        for (int route = 1; route <= 4; route++) {
            checks.due("25: whyNot(" + unit + ", " + route + "), " + name, desk.whyNot(unit, route), due[route - 1]);
        }
    }

    private static void whyNot() {
        ReturnGrades desk = Checks.deskWith("p0r0:9999;p0r0:5555;p0r0:1111;p0r0;p1r0;p0r0:5555;p1r0:1111");
        dueReasons("grade 0", desk, 0, 4, 0, 0, 2);
        dueReasons("grade 1", desk, 1, 0, 0, 0, 2);
        dueReasons("grade 3", desk, 2, 0, 4, 0, 2);
        dueReasons("not tested", desk, 3, 3, 3, 3, 2);
        desk.send(5, 1);
        dueReasons("in the workshop", desk, 5, 1, 1, 1, 1);
        desk.recall(1, true);
        dueReasons("held, not tested", desk, 4, 2, 2, 2, 0);
        dueReasons("held, tested", desk, 6, 2, 2, 2, 0);
        desk.send(4, 4);
        dueReasons("sent back", desk, 4, 1, 1, 1, 1);
        desk.send(0, 2);
        dueReasons("sold", desk, 0, 1, 1, 1, 1);
        desk.send(2, 3);
        dueReasons("scrapped", desk, 2, 1, 1, 1, 1);
        checks.refused("25: unit 7", desk, INDEX, () -> desk.whyNot(7, 5));
        checks.refused("25: unit -1", desk, INDEX, () -> desk.whyNot(-1, 1));
        checks.refused("25: route 0", desk, ARGUMENT, () -> desk.whyNot(0, 0));
        checks.refused("25: route 5", desk, ARGUMENT, () -> desk.whyNot(0, 5));
    }

    private static void whyNotBehindTwoVisits() {
        ReturnGrades desk = Checks.deskWith("p0r0:5555");
        desk.send(0, 1);
        desk.pass(1);
        dueReasons("once there", desk, 0, 0, 0, 0, 2);
        desk.send(0, 1);
        desk.pass(1);
        dueReasons("twice there", desk, 0, 5, 0, 0, 2);
        desk.set(0, 28);
        dueReasons("twice there, grade 0", desk, 0, 4, 0, 0, 2);
        desk.recall(0, true);
        dueReasons("twice there, held", desk, 0, 2, 2, 2, 0);
    }

    private static void dueRepair(String name, ReturnGrades desk, int unit, int grade, int cost, int price) {
        checks.due("26: the grade, " + name, desk.ifRepaired(unit, 0), grade);
        checks.due("26: the cost, " + name, desk.ifRepaired(unit, 1), cost);
        checks.due("26: the price, " + name, desk.ifRepaired(unit, 2), price);
    }

    private static void ifRepaired() {
        ReturnGrades desk = Checks.deskWith("p0r0:0000;p0r0:0699;p0r0:9978;p0r0;p0r0:9992");
        desk.product(0, 199, 0);
        dueRepair("all 0", desk, 0, 1, 28 * 3, 139);
        dueRepair("two below 7", desk, 1, 0, 8 * 3, 179);
        dueRepair("none below 7", desk, 2, 0, 0, 179);
        dueRepair("not tested", desk, 3, NONE, NONE, NONE);
        desk.send(4, 1);
        dueRepair("in the workshop", desk, 4, 0, 5 * 3, 179);
        desk.send(2, 2);
        desk.set(4, 20);
        desk.set(0, 36);
        desk.set(1, 33);
        dueRepair("sold, by the settings now", desk, 2, 1, 0, 139);
        dueRepair("grade 2", desk, 0, 2, 560, 79);
        desk.set(2, 29);
        dueRepair("grade 3", desk, 0, 3, 560, 0);
        checks.refused("26: unit 5", desk, INDEX, () -> desk.ifRepaired(5, 3));
        checks.refused("26: unit -1", desk, INDEX, () -> desk.ifRepaired(-1, 0));
        checks.refused("26: what -1", desk, ARGUMENT, () -> desk.ifRepaired(0, -1));
        checks.refused("26: what 3, though it is not tested", desk, ARGUMENT, () -> desk.ifRepaired(3, 3));
    }

    /** Unit 1 has 20 points: sold 70, repaired 70 less 8 points; unit 2 has 16: sold 40, repaired 70 less 12 points. */
    private static void bestRoute() {
        ReturnGrades desk = Checks.deskWith("p0r0:9999;p0r0:5555;p0r0:4444;p0r0:1111;p0r0;p1r0:9999");
        checks.due("27: grade 0", desk.bestRoute(0), 2);
        checks.due("27: the cost is too high", desk.bestRoute(1), 2);
        checks.due("27: not tested", desk.bestRoute(4), NONE);
        desk.set(4, 2);
        checks.due("27: the workshop brings more", desk.bestRoute(2), 1);
        desk.product(0, 80, 0);
        checks.due("27: 56 less 24 equals 32", desk.ifRepaired(2, 2) - desk.ifRepaired(2, 1), 32);
        checks.due("27: of equal ones the lowest", desk.bestRoute(2), 1);
        desk.set(4, 3);
        checks.due("27: one less", desk.bestRoute(2), 2);
        desk.product(0, 60, 0);
        checks.due("27: less than nothing", desk.bestRoute(3), 3);
        desk.set(4, 0);
        desk.product(0, 1, 0);
        checks.due("27: nothing on every route", desk.bestRoute(3), 1);
        desk.recall(1, true);
        checks.due("27: held", desk.bestRoute(5), 4);
        desk.send(5, 4);
        checks.due("27: sent back", desk.bestRoute(5), NONE);
        desk.send(3, 1);
        checks.due("27: in the workshop", desk.bestRoute(3), NONE);
        checks.refused("27: unit 6", desk, INDEX, () -> desk.bestRoute(6));
        checks.refused("27: unit -1", desk, INDEX, () -> desk.bestRoute(-1));
    }

    private static void ifClosed() {
        ReturnGrades desk = Checks.deskWith("p0r0:3333;p0r0:1111;p0r0:5555;p1r0:1111;p0r0:3333;p0r0:1111");
        checks.due("28: nothing waits", desk.ifClosed(), 0);
        desk.product(1, 30, 1);
        desk.claim(5);
        desk.limit(0, 0);
        desk.limit(1, 14);
        for (int unit = 0; unit < 5; unit++) {
            desk.claim(unit);
        }
        checks.due("28: above the limits", desk.ifClosed(), 0);
        desk.limit(0, 99);
        desk.limit(1, 15);
        long before = desk.digest();
        checks.due("28: what fits", desk.ifClosed(), 50 + 33 + 16 + 15);
        checks.due("28: again", desk.ifClosed(), 114);
        checks.due("28: nothing is changed", desk.digest(), before);
        checks.due("28: paid in the period", desk.vendor(0, 1), 50);
        checks.due("28: what closePeriod() returns", desk.closePeriod(), 114);
        checks.due("28: what is left", desk.ifClosed(), 33);
    }

    private static void claimable() {
        ReturnGrades desk = Checks.deskWith("p0r0:1111;p0r1:3333;p0r0;p0r0:9999");
        desk.product(0, 199, 2);
        desk.agree(2, 1, 33);
        checks.due("29: grade 3", desk.claimable(0), 99);
        checks.due("29: grade 2", desk.claimable(1), 43);
        checks.due("29: not tested", desk.claimable(2), NONE);
        checks.due("29: grade 0", desk.claimable(3), 0);
        desk.claim(0);
        desk.product(0, 200, 2);
        checks.due("29: behind a claim, by the cost now", desk.claimable(0), 100);
        desk.send(0, 3);
        checks.due("29: scrapped", desk.claimable(0), 100);
        desk.send(1, 1);
        desk.product(0, 100, 3);
        checks.due("29: in the workshop, by the vendor now", desk.claimable(1), 33);
        checks.refused("29: unit 4", desk, INDEX, () -> desk.claimable(4));
        checks.refused("29: unit -1", desk, INDEX, () -> desk.claimable(-1));
    }

    private static void workDays() {
        ReturnGrades desk = Checks.deskWith("p0r0:1111;p0r0:1111;p1r0:1111;p0r0:1111;p0r0:1111;p1r0:1111");
        checks.due("30: an empty workshop", desk.workDays(), 0);
        int[] days = {1, 1, 2, 2, 3, 3};
        for (int unit = 0; unit < 6; unit++) {
            desk.send(unit, 1);
            checks.due("30: with unit " + unit, desk.workDays(), days[unit]);
        }
        desk.set(3, 5);
        checks.due("30: six, five in a day", desk.workDays(), 2);
        desk.recall(1, true);
        checks.due("30: four that are not held", desk.workDays(), 1);
        desk.set(3, 1);
        checks.due("30: one in a day", desk.workDays(), 4);
        desk.pass(3);
        checks.due("30: three days later", desk.workDays(), 1);
        desk.recall(0, true);
        checks.due("30: all are held", desk.workDays(), 0);
    }

    private static void backShare() {
        ReturnGrades desk = new ReturnGrades();
        checks.due("31: without units", desk.backShare(), 0.0);
        Checks.type(desk, "p0r0:9999;p0r0:1111;p1r0;p1r0:1111");
        desk.receiveAll();
        checks.due("31: nothing came back", desk.backShare(), 0.0);
        desk.product(1, 333, 1);
        desk.send(1, 1);
        desk.pass(1);
        checks.due("31: below 0", desk.backShare(), -72.0 / 866.0);
        desk.send(0, 2);
        checks.due("31: with a sale", desk.backShare(), (90.0 - 72.0) / 866.0);
        desk.claim(3);
        checks.due("31: with a claim", desk.backShare(), (90.0 + 166.0 - 72.0) / 866.0);
        desk.recall(1, true);
        desk.send(2, 4);
        checks.due("31: with a unit sent back", desk.backShare(), (90.0 + 166.0 + 333.0 - 72.0) / 866.0);
        desk.product(0, 1, 0);
        desk.product(1, 1, 0);
        checks.due("31: above 1, by the costs now", desk.backShare(), 517.0 / 4.0);

        ReturnGrades one = Checks.deskWith("p0r0:9999");
        one.send(0, 2);
        one.product(0, 1, 0);
        checks.due("31: one unit with the cost 1", one.backShare(), 90.0);
    }

    /** The hash again, from the answers of the other calls. */
    private static long dueDigest(ReturnGrades desk, String buffer) {
        long[] hash = {2477};
        for (int what = 0; what <= 13; what++) {
            mix(hash, desk.count(what));
        }
        for (int number = 0; number <= 4; number++) {
            mix(hash, desk.setting(number));
        }
        for (int unit = 0; unit < desk.count(0); unit++) {
            for (int what = 0; what <= 13; what++) {
                mix(hash, desk.unit(unit, what));
            }
            for (int route = 1; route <= 4; route++) {
                mix(hash, desk.whyNot(unit, route));
            }
            for (int what = 0; what <= 2; what++) {
                mix(hash, desk.ifRepaired(unit, what));
            }
            mix(hash, desk.bestRoute(unit));
            mix(hash, desk.claimable(unit));
        }
        for (int product = 0; product <= 5; product++) {
            for (int what = 0; what <= 5; what++) {
                mix(hash, desk.productOf(product, what));
            }
        }
        for (int vendor = 0; vendor <= 3; vendor++) {
            for (int what = 0; what <= 9; what++) {
                mix(hash, desk.vendor(vendor, what));
            }
        }
        for (int place = 0; place <= 2; place++) {
            mix(hash, desk.inWorkshop(place));
        }
        for (int place = 0; place <= 2; place++) {
            mix(hash, desk.waiting(place));
        }
        mix(hash, desk.ifClosed());
        mix(hash, desk.workDays());
        mix(hash, Double.doubleToLongBits(desk.backShare()));
        mix(hash, buffer.length());
        for (int i = 0; i < buffer.length(); i++) {
            mix(hash, buffer.charAt(i));
        }
        return hash[0];
    }

    private static void mix(long[] hash, long value) {
        hash[0] = 31 * hash[0] + value;
    }

    private static void digest() {
        ReturnGrades desk = new ReturnGrades();
        checks.due("32: a new desk", desk.digest(), dueDigest(desk, ""));
        Checks.type(desk, "p0r~");
        checks.due("32: with a text", desk.digest(), dueDigest(desk, "p0r~"));
        checks.due("32: it changes nothing", desk.digest(), dueDigest(desk, "p0r~"));

        String[] names = {"claims and a workshop", "a share below 0", "a share between 0 and 1"};
        for (int steps = 0; steps < names.length; steps++) {
            ReturnGrades busy = busyDesk(steps);
            checks.due("32: " + names[steps], busy.digest(), dueDigest(busy, ""));
        }
    }

    /** With no step more there are claims and a workshop; then a day passes, and then a unit is sent back. */
    private static ReturnGrades busyDesk(int steps) {
        ReturnGrades desk = Checks.deskWith("p0r0:1119;p1r1:5554;p1r2:1999;p1r3:1111;p2r0;p2r1:9999");
        for (int unit = 0; unit < 4; unit++) {
            desk.send(unit, 1);
        }
        desk.limit(0, 40);
        for (int unit = 0; unit < 4; unit++) {
            desk.claim(unit);
        }
        if (steps > 0) {
            desk.pass(1);
        }
        if (steps > 1) {
            desk.recall(2, true);
            desk.send(4, 4);
        }
        return desk;
    }

    /** Shares of very different sizes, below and above 0; each desk has one unit. */
    private static void digestOfShares() {
        int[] sold = {1, 2, 3, 7, 100, 101, 9998, 9999};
        int[] then = {9999, 9998, 4096, 101, 7, 3, 2, 1};
        for (int first : sold) {
            for (int second : then) {
                ReturnGrades desk = Checks.deskWith("p0r0:9999");
                desk.product(0, first, 0);
                desk.send(0, 2);
                desk.product(0, second, 0);
                checks.due("32: share " + desk.backShare(), desk.digest(), dueDigest(desk, ""));

                ReturnGrades below = Checks.deskWith("p0r0:9992");
                below.product(0, second, 0);
                below.set(4, first % 21);
                below.send(0, 1);
                below.pass(1);
                checks.due("32: share " + below.backShare(), below.digest(), dueDigest(below, ""));
            }
        }
    }
}
