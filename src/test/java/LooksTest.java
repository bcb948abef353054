/** Promises 18 to 24: looks, which change nothing. */
public final class LooksTest {
    private static final Class<IndexOutOfBoundsException> INDEX = IndexOutOfBoundsException.class;
    private static final Class<IllegalArgumentException> ARGUMENT = IllegalArgumentException.class;
    private static final int NONE = ReturnGrades.NONE;

    private static final Checks checks = new Checks();

    public static void main(String[] args) {
        unit();
        productOf();
        vendor();
        inWorkshop();
        waiting();
        count();
        setting();
        checks.end();
    }

    /** Unit 0 was repaired and sold, unit 1 waits in the workshop, unit 2 was sent back, unit 3 is new. */
    private static ReturnGrades busyDesk() {
        ReturnGrades desk = Checks.deskWith("p1r0:1119;p2r1:5554;p3r2:9999;p1r3");
        desk.product(1, 300, 2);
        desk.product(2, 200, 2);
        desk.limit(2, 100);
        desk.send(0, 1);
        desk.claim(0);
        desk.pass(1);
        desk.send(0, 2);
        desk.send(1, 1);
        desk.claim(1);
        desk.recall(3, true);
        desk.send(2, 4);
        desk.recall(2, true);
        return desk;
    }

    private static void unit() {
        ReturnGrades desk = busyDesk();
        int[][] due = {
            {1, 0, 7, 7, 7, 9, 0, 2, 0, 1, 100, 1, 270, 54},
            {2, 1, 5, 5, 5, 4, 2, 1, 1, 1, 66, 0, 0, 0},
            {3, 2, 9, 9, 9, 9, 0, 4, 0, 0, NONE, 0, 100, 0},
            {1, 3, NONE, NONE, NONE, NONE, NONE, 0, 0, 0, NONE, 0, 0, 0}};
        for (int unit = 0; unit < due.length; unit++) {
            for (int what = 0; what <= 13; what++) {
                checks.due("18: unit(" + unit + ", " + what + ")", desk.unit(unit, what), due[unit][what]);
            }
        }
        desk.set(0, 36);
        desk.set(1, 31);
        desk.set(2, 20);
        checks.due("18: the grade of a sold unit by the settings now", desk.unit(0, 6), 2);
        checks.due("18: the grade in the workshop by the settings now", desk.unit(1, 6), 3);
        checks.refused("18: unit 4", desk, INDEX, () -> desk.unit(4, 14));
        checks.refused("18: unit -1", desk, INDEX, () -> desk.unit(-1, 0));
        checks.refused("18: unit 20", desk, INDEX, () -> desk.unit(20, 0));
        checks.refused("18: what -1", desk, ARGUMENT, () -> desk.unit(0, -1));
        checks.refused("18: what 14", desk, ARGUMENT, () -> desk.unit(0, 14));
    }

    private static void productOf() {
        ReturnGrades desk = busyDesk();
        int[][] due = {{100, 0, 0, 0, 0, 0}, {300, 2, 0, 2, 1, 1}, {200, 2, 1, 1, 1, 0}, {100, 0, 1, 1, 0, 0}};
        for (int product = 0; product < due.length; product++) {
            for (int what = 0; what <= 5; what++) {
                int got = desk.productOf(product, what);
                checks.due("19: productOf(" + product + ", " + what + ")", got, due[product][what]);
            }
        }
        checks.refused("19: product 6", desk, INDEX, () -> desk.productOf(6, 6));
        checks.refused("19: product -1", desk, INDEX, () -> desk.productOf(-1, 0));
        checks.refused("19: what -1", desk, ARGUMENT, () -> desk.productOf(0, -1));
        checks.refused("19: what 6", desk, ARGUMENT, () -> desk.productOf(0, 6));
    }

    private static void vendor() {
        ReturnGrades desk = busyDesk();
        desk.agree(2, 0, 1);
        desk.agree(2, 1, 2);
        desk.agree(2, 2, 3);
        desk.agree(2, 3, 4);
        int[] two = {100, 100, 100, 0, 1, 66, 1, 2, 3, 4};
        int[] zero = {1000, 0, 0, 100, 0, 0, 50, 50, 50, 50};
        for (int what = 0; what <= 9; what++) {
            checks.due("20: vendor(2, " + what + ")", desk.vendor(2, what), two[what]);
            checks.due("20: vendor(0, " + what + ")", desk.vendor(0, what), zero[what]);
        }
        checks.refused("20: vendor 4", desk, INDEX, () -> desk.vendor(4, 10));
        checks.refused("20: vendor -1", desk, INDEX, () -> desk.vendor(-1, 0));
        checks.refused("20: what -1", desk, ARGUMENT, () -> desk.vendor(0, -1));
        checks.refused("20: what 10", desk, ARGUMENT, () -> desk.vendor(0, 10));
    }

    private static void inWorkshop() {
        ReturnGrades desk = Checks.deskWith("p0r0:3333;p1r0:3333;p0r0:1111;p0r0:5555;p1r0:3333;p2r0:1111");
        desk.product(1, 101, 0);
        checks.due("21: nothing there", desk.inWorkshop(0), NONE);
        for (int unit = 5; unit >= 0; unit--) {
            desk.send(unit, 1);
        }
        checks.due("21: the order", Checks.workshop(desk), "2.5.1.4.0.3.");
        desk.recall(0, true);
        checks.due("21: with held ones", Checks.workshop(desk), "2.5.1.4.0.3.");
        desk.product(2, 9999, 0);
        checks.due("21: by the costs now", Checks.workshop(desk), "5.2.1.4.0.3.");
        desk.set(2, 0);
        checks.due("21: by the grades now", Checks.workshop(desk), "5.1.4.0.2.3.");
        desk.set(0, 12);
        checks.due("21: grade 0 comes last", Checks.workshop(desk), "5.2.1.4.0.3.");
        checks.due("21: the place 19", desk.inWorkshop(19), NONE);
        checks.refused("21: place -1", desk, ARGUMENT, () -> desk.inWorkshop(-1));
        checks.refused("21: place 20", desk, ARGUMENT, () -> desk.inWorkshop(20));

        ReturnGrades costly = Checks.deskWith("p0r0:5555;p1r0:4444");
        costly.product(0, 9999, 0);
        costly.product(1, 1, 0);
        costly.send(0, 1);
        costly.send(1, 1);
        checks.due("21: the grade comes before any cost", Checks.workshop(costly), "1.0.");

        ReturnGrades full = new ReturnGrades();
        for (int i = 0; i < 20; i++) {
            full.receive(0, 0);
            for (int test = 0; test < 4; test++) {
                full.test(i, test, 1);
            }
            full.send(i, 1);
        }
        for (int place = 0; place < 20; place++) {
            checks.due("21: the place " + place, full.inWorkshop(place), place);
        }
    }

    private static void waiting() {
        ReturnGrades desk = Checks.deskWith("p0r0:3333;p1r0:1111;p0r0:1111;p1r0:3333;p2r0:1111");
        desk.product(1, 101, 1);
        desk.product(2, 9999, 2);
        for (int vendor = 0; vendor < 3; vendor++) {
            desk.limit(vendor, 0);
        }
        checks.due("22: nothing waits", desk.waiting(0), NONE);
        for (int unit = 0; unit < 5; unit++) {
            desk.claim(unit);
        }
        checks.due("22: the order over all vendors", Checks.waiting(desk), "4.1.2.0.3.");
        desk.send(1, 3);
        desk.send(2, 1);
        checks.due("22: wherever they are", Checks.waiting(desk), "4.1.2.0.3.");
        checks.due("22: the place 19", desk.waiting(19), NONE);
        waitingForNothing();
        checks.refused("22: place -1", desk, ARGUMENT, () -> desk.waiting(-1));
        checks.refused("22: place 20", desk, ARGUMENT, () -> desk.waiting(20));
    }

    /** A claim of 0 for the last unit that there can be waits, as its vendor paid more than its limit. */
    private static void waitingForNothing() {
        ReturnGrades desk = new ReturnGrades();
        for (int i = 0; i < 18; i++) {
            desk.receive(0, 0);
        }
        Checks.type(desk, "p0r0:1111;p0r0:9999");
        desk.receiveAll();
        desk.claim(18);
        desk.limit(0, 0);
        desk.claim(19);
        checks.due("22: a claim of 0 for unit 19", desk.waiting(0), 19);
        checks.due("22: no other claim", desk.waiting(1), NONE);
        desk.closePeriod();
        checks.due("22: it is settled", desk.waiting(0), NONE);
    }

    private static void count() {
        ReturnGrades desk = busyDesk();
        desk.receive(2, 0);
        for (int test = 0; test < 4; test++) {
            desk.test(3, test, 1);
        }
        desk.claim(3);
        desk.send(3, 3);
        desk.closePeriod();
        desk.closePeriod();
        int[] due = {5, 1, 1, 1, 1, 1, 2, 1, 270, 266, 54, 2, 3, 6};
        for (int what = 0; what <= 13; what++) {
            checks.due("23: count(" + what + ")", desk.count(what), due[what]);
        }
        countPlaces();
        checks.refused("23: what -1", desk, ARGUMENT, () -> desk.count(-1));
        checks.refused("23: what 14", desk, ARGUMENT, () -> desk.count(14));
    }

    /** One unit in stock, two in the workshop, three sold, four scrapped, five sent back. */
    private static void countPlaces() {
        ReturnGrades desk = new ReturnGrades();
        for (int i = 0; i < 15; i++) {
            Checks.type(desk, i < 10 ? "p0r0:5555" : "p1r0");
            desk.receiveAll();
        }
        desk.recall(1, true);
        int[] routes = {0, 1, 1, 2, 2, 2, 3, 3, 3, 3, 4, 4, 4, 4, 4};
        for (int unit = 1; unit < routes.length; unit++) {
            desk.send(unit, routes[unit]);
        }
        for (int place = 0; place <= 4; place++) {
            checks.due("23: units in the place " + place, desk.count(1 + place), 1 + place);
        }
        checks.due("19: units of product 0", desk.productOf(0, 3), 10);
        checks.due("19: those here", desk.productOf(0, 4), 3);
        checks.due("19: those sold", desk.productOf(0, 5), 3);
    }

    private static void setting() {
        ReturnGrades desk = new ReturnGrades();
        desk.set(2, 36);
        int[] due = {30, 20, 36, 2, 3};
        for (int number = 0; number < due.length; number++) {
            checks.due("24: setting(" + number + ")", desk.setting(number), due[number]);
        }
        checks.refused("24: setting 5", desk, INDEX, () -> desk.setting(5));
        checks.refused("24: setting -1", desk, INDEX, () -> desk.setting(-1));
        checks.refused("24: a very great setting", desk, INDEX, () -> desk.setting(Integer.MAX_VALUE));
    }
}
