/** Promises 7 to 10: units come, are tested, sent, and repaired day by day. */
public final class UnitsTest {
    private static final Class<IndexOutOfBoundsException> INDEX = IndexOutOfBoundsException.class;
    private static final Class<IllegalArgumentException> ARGUMENT = IllegalArgumentException.class;
    private static final Class<IllegalStateException> STATE = IllegalStateException.class;
    private static final int NONE = ReturnGrades.NONE;

    private static final Checks checks = new Checks();

    public static void main(String[] args) {
        receive();
        receiveAgainBehindUndo();
        test();
        grades();
        sendToBuyersAndScrap();
        sendBack();
        sendToWorkshop();
        pass();
        passInOrder();
        passTakesGradeZero();
        passLeavesHeldUnits();
        passToTheLastDay();
        checks.end();
    }

    private static void receive() {
        ReturnGrades desk = new ReturnGrades();
        for (int number = 0; number < 20; number++) {
            checks.due("7: its number", desk.receive(number % 6, number % 4), number);
        }
        checks.due("7: its product", desk.unit(11, 0), 5);
        checks.due("7: its reason", desk.unit(11, 1), 3);
        for (int what = 2; what <= 6; what++) {
            checks.due("7: unit(11, " + what + ")", desk.unit(11, what), NONE);
        }
        checks.due("7: saved states", desk.count(13), 6);
        checks.refused("7: 21 units", desk, STATE, () -> desk.receive(0, 0));
        checks.refused("7: no product comes before 21 units", desk, INDEX, () -> desk.receive(6, 0));
        checks.refused("7: no reason comes before 21 units", desk, INDEX, () -> desk.receive(0, 4));
        desk.undo();
        checks.due("7: units behind undo", desk.count(0), 19);
        checks.refused("7: product -1", desk, INDEX, () -> desk.receive(-1, 0));
        checks.refused("7: reason -1", desk, INDEX, () -> desk.receive(0, -1));
        checks.refused("7: a very great product", desk, INDEX, () -> desk.receive(Integer.MAX_VALUE, 0));
        checks.refused("7: a very small reason", desk, INDEX, () -> desk.receive(0, Integer.MIN_VALUE));
        checks.due("7: the last one again", desk.receive(0, 0), 19);
    }

    /** A unit that takes the number of an undone one has nothing of it. */
    private static void receiveAgainBehindUndo() {
        ReturnGrades desk = new ReturnGrades();
        desk.limit(0, 0);
        Checks.type(desk, "p2r3:1111");
        desk.receiveAll();
        desk.send(0, 1);
        desk.pass(1);
        desk.test(0, 0, 1);
        desk.claim(0);
        desk.send(0, 2);
        for (int i = 0; i < 6; i++) {
            desk.undo();
        }
        desk.receive(1, 1);
        int[] due = {1, 1, NONE, NONE, NONE, NONE, NONE, 0, 0, 0, NONE, 0, 0, 0};
        for (int what = 0; what < due.length; what++) {
            checks.due("7: unit(0, " + what + ") behind undo", desk.unit(0, what), due[what]);
        }
        checks.due("7: no claim waits", desk.waiting(0), NONE);
    }

    private static void test() {
        ReturnGrades desk = new ReturnGrades();
        desk.receive(0, 0);
        desk.receive(0, 0);
        checks.due("8: one score", desk.test(0, 3, 9), NONE);
        checks.due("8: two scores", desk.test(0, 2, 9), NONE);
        checks.due("8: three scores", desk.test(0, 1, 3), NONE);
        checks.due("8: the sum 30", desk.test(0, 0, 9), 0);
        checks.due("8: a score is replaced", desk.test(0, 0, 8), 1);
        checks.due("8: the score", desk.unit(0, 2), 8);
        checks.due("8: another score", desk.unit(0, 3), 3);
        checks.due("8: another unit", desk.unit(1, 2), NONE);
        checks.due("8: saved states", desk.count(13), 6);
        desk.undo();
        checks.due("8: behind undo", desk.unit(0, 2), 9);
        desk.recall(0, true);
        checks.due("8: a held unit", desk.test(0, 0, 0), 2);
        desk.recall(0, false);
        checks.refused("8: unit 2", desk, INDEX, () -> desk.test(2, 0, 10));
        checks.refused("8: unit -1", desk, INDEX, () -> desk.test(-1, 0, 0));
        checks.refused("8: test 4 comes before the score", desk, INDEX, () -> desk.test(0, 4, 10));
        checks.refused("8: test -1", desk, INDEX, () -> desk.test(0, -1, 0));
        checks.refused("8: a very great test", desk, INDEX, () -> desk.test(0, Integer.MAX_VALUE, 0));
        checks.refused("8: score -1", desk, ARGUMENT, () -> desk.test(0, 0, -1));
        checks.refused("8: score 10", desk, ARGUMENT, () -> desk.test(0, 0, 10));
        desk.send(0, 1);
        checks.refused("8: in the workshop", desk, STATE, () -> desk.test(0, 0, 5));
        checks.refused("8: the score comes before the place", desk, ARGUMENT, () -> desk.test(0, 0, 10));
        desk.pass(1);
        checks.due("8: in stock again", desk.test(0, 0, 4), 1);
        desk.send(0, 3);
        checks.refused("8: scrapped", desk, STATE, () -> desk.test(0, 0, 5));
    }

    private static void grades() {
        ReturnGrades desk = Checks.deskWith("p0r0:9993;p0r0:9992;p0r0:5555;p0r0:5554;p0r0:3331;p0r0:3321");
        int[] grades = {0, 1, 1, 2, 2, 3};
        for (int number = 0; number < grades.length; number++) {
            checks.due("8: the grade of unit " + number, desk.unit(number, 6), grades[number]);
        }
        checks.due("8: with a score 0", desk.test(0, 3, 0), 2);
        checks.due("8: with a score 0 and the sum 8", desk.test(5, 3, 0), 3);
        checks.due("8: with a score 0 and the sum 9", desk.test(5, 2, 3), 3);
        checks.due("8: with a score 0 and the sum 10", desk.test(5, 1, 4), 2);
        desk.set(0, 0);
        checks.due("8: a score 0 with the sum for grade 0", desk.unit(0, 6), 2);
        desk.set(0, 36);
        desk.set(1, 36);
        desk.set(2, 0);
        checks.due("8: the sum for grade 2", desk.unit(1, 6), 2);
        desk.set(1, 5);
        desk.set(2, 30);
        checks.due("8: sums that are not in order", desk.unit(4, 6), 1);
        desk.set(0, 10);
        checks.due("8: the first sum that fits", desk.unit(4, 6), 0);
    }

    private static void sendToBuyersAndScrap() {
        ReturnGrades desk = Checks.deskWith("p1r0:9999;p1r0:5555;p1r0:3333;p1r0:1111;p1r0;p1r0:9999");
        desk.product(1, 199, 2);
        checks.due("9: sold with grade 0", desk.send(0, 2), 179);
        checks.due("9: sold with grade 1", desk.send(1, 2), 139);
        checks.due("9: sold with grade 2", desk.send(2, 2), 79);
        checks.due("9: what it brought", desk.unit(1, 12), 139);
        checks.due("9: money by sales", desk.count(8), 397);
        checks.due("9: it is sold", desk.unit(0, 7), 2);
        checks.due("9: saved states", desk.count(13), 5);
        checks.refused("9: grade 3 cannot be sold", desk, STATE, () -> desk.send(3, 2));
        checks.due("9: scrapped with grade 3", desk.send(3, 3), 0);
        checks.due("9: it is scrapped", desk.unit(3, 7), 3);
        for (int route = 1; route <= 4; route++) {
            int way = route;
            checks.refused("9: not tested, on " + route, desk, STATE, () -> desk.send(4, way));
            checks.refused("9: sold, on " + route, desk, STATE, () -> desk.send(0, way));
            checks.refused("9: scrapped, on " + route, desk, STATE, () -> desk.send(3, way));
        }
        checks.refused("9: not held, to its vendor", desk, STATE, () -> desk.send(5, 4));
        checks.refused("9: unit 6 comes before the route", desk, INDEX, () -> desk.send(6, 5));
        checks.refused("9: unit -1", desk, INDEX, () -> desk.send(-1, 2));
        checks.refused("9: route 0", desk, ARGUMENT, () -> desk.send(5, 0));
        checks.refused("9: route 5 comes before the state", desk, ARGUMENT, () -> desk.send(0, 5));
        desk.undo();
        checks.due("9: behind undo", desk.unit(3, 7), 0);
        desk.product(1, 5000, 2);
        checks.due("9: what was brought stays", desk.count(8), 397);
    }

    private static void sendBack() {
        ReturnGrades desk = Checks.deskWith("p1r0:9999;p1r0;p0r0:9999");
        desk.product(1, 5000, 2);
        desk.limit(2, 0);
        desk.recall(1, true);
        for (int route = 1; route <= 3; route++) {
            int way = route;
            checks.refused("9: held, on " + route, desk, STATE, () -> desk.send(0, way));
        }
        checks.due("9: back to its vendor", desk.send(0, 4), 5000);
        checks.due("9: back without scores", desk.send(1, 4), 5000);
        checks.due("9: what the vendor paid for units", desk.vendor(2, 3), 10000);
        checks.due("9: it counts for no period", desk.vendor(2, 1), 0);
        checks.due("9: it is no claim", desk.vendor(2, 2), 0);
        checks.due("9: money by vendors", desk.count(9), 10000);
        checks.due("9: money by sales", desk.count(8), 0);
        checks.due("9: it is sent back", desk.unit(0, 7), 4);
        checks.due("9: it is not held any more", desk.unit(0, 8), 0);
        checks.due("9: what it brought", desk.unit(0, 12), 5000);
        desk.product(1, 7, 3);
        checks.due("9: the vendor that paid", desk.vendor(2, 3), 10000);
        checks.due("9: the new vendor", desk.vendor(3, 3), 0);
        desk.undo();
        desk.undo();
        checks.due("9: behind undo", desk.vendor(2, 3), 5000);
    }

    private static void sendToWorkshop() {
        ReturnGrades desk = Checks.deskWith("p0r0:5555;p0r0:9999");
        checks.due("9: to the workshop", desk.send(0, 1), 0);
        checks.due("9: it is there", desk.unit(0, 7), 1);
        checks.due("9: how often", desk.unit(0, 9), 1);
        checks.refused("9: it is there already", desk, STATE, () -> desk.send(0, 1));
        checks.refused("9: sold from the workshop", desk, STATE, () -> desk.send(0, 2));
        checks.refused("9: grade 0", desk, STATE, () -> desk.send(1, 1));
        desk.pass(1);
        checks.due("9: a second time", desk.send(0, 1), 0);
        checks.due("9: how often then", desk.unit(0, 9), 2);
        desk.pass(1);
        checks.refused("9: a third time", desk, STATE, () -> desk.send(0, 1));
        checks.due("9: it can be sold", desk.send(0, 2), 70);
    }

    private static void pass() {
        ReturnGrades desk = Checks.deskWith("p0r0:6705;p0r0:1999;p0r0:9995");
        desk.set(0, 35);
        desk.send(0, 1);
        desk.send(1, 1);
        desk.send(2, 1);
        checks.due("10: what a day costs", desk.pass(1), (1 + 7 + 2 + 6) * 3);
        checks.due("10: the number of the day", desk.count(7), 1);
        int[] scores = {7, 7, 7, 7};
        for (int test = 0; test < scores.length; test++) {
            checks.due("10: the score of test " + test, desk.unit(0, 2 + test), scores[test]);
        }
        checks.due("10: a score of 7 or more stays", desk.unit(1, 3), 9);
        checks.due("10: in stock again", desk.unit(0, 7), 0);
        checks.due("10: the third one waits", desk.unit(2, 7), 1);
        checks.due("10: what it cost for the first", desk.unit(0, 13), 30);
        checks.due("10: what it cost for the second", desk.unit(1, 13), 18);
        checks.due("10: the cost so far", desk.count(10), 48);
        desk.set(4, 20);
        checks.due("10: a point costs more", desk.pass(2), 40);
        checks.due("10: the number of the day then", desk.count(7), 3);
        checks.due("10: an empty workshop", desk.pass(30), 0);
        checks.due("10: saved states", desk.count(13), 6);
        desk.undo();
        checks.due("10: the day behind undo", desk.count(7), 3);
        desk.test(0, 0, 5);
        desk.send(0, 1);
        desk.pass(1);
        checks.due("10: both times together", desk.unit(0, 13), 70);
        checks.due("10: the cost of all", desk.count(10), 128);
        checks.refused("10: 0 days", desk, ARGUMENT, () -> desk.pass(0));
        checks.refused("10: -1 days", desk, ARGUMENT, () -> desk.pass(-1));
        checks.refused("10: 31 days", desk, ARGUMENT, () -> desk.pass(31));
        checks.refused("10: very many days", desk, ARGUMENT, () -> desk.pass(Integer.MAX_VALUE));
        checks.refused("10: very few days", desk, ARGUMENT, () -> desk.pass(Integer.MIN_VALUE));
    }

    /** The highest grade first, then the greatest cost, then the lowest number. */
    private static void passInOrder() {
        ReturnGrades desk = Checks.deskWith("p0r0:3333;p1r0:3333;p0r0:1111;p0r0:5555;p1r0:3333");
        desk.product(0, 50, 0);
        desk.product(1, 60, 0);
        desk.set(3, 1);
        for (int unit = 0; unit < 5; unit++) {
            desk.send(unit, 1);
        }
        int[] order = {2, 1, 4, 0, 3};
        for (int day = 0; day < order.length; day++) {
            checks.due("10: unit " + order[day] + " waits for day " + day, desk.unit(order[day], 7), 1);
            desk.pass(1);
            checks.due("10: unit " + order[day] + " comes on day " + day, desk.unit(order[day], 7), 0);
        }

        ReturnGrades many = Checks.deskWith("p0r0:1111;p0r0:1111;p0r0:1111;p0r0:1111;p0r0:1111;p0r0:1111");
        many.set(3, 5);
        for (int unit = 0; unit < 6; unit++) {
            many.send(unit, 1);
        }
        checks.due("10: five in a day", many.pass(1), 5 * 24 * 3);
        checks.due("10: the last one", many.inWorkshop(0), 5);
    }

    /** A unit that has grade 0 since a setting was changed is taken on all the same. */
    private static void passTakesGradeZero() {
        ReturnGrades desk = Checks.deskWith("p0r0:9991");
        desk.send(0, 1);
        desk.set(0, 28);
        checks.due("10: its grade", desk.unit(0, 6), 0);
        checks.due("10: six points", desk.pass(1), 18);
        checks.due("10: in stock again", desk.unit(0, 7), 0);
    }

    private static void passLeavesHeldUnits() {
        ReturnGrades desk = Checks.deskWith("p0r0:1111;p1r0:5555");
        desk.send(0, 1);
        desk.send(1, 1);
        desk.recall(0, true);
        desk.set(3, 1);
        checks.due("10: the held one is passed over", desk.pass(3), 24);
        checks.due("10: it stays", desk.unit(0, 7), 1);
        desk.recall(0, false);
        checks.due("10: it is taken on then", desk.pass(1), 72);
    }

    private static void passToTheLastDay() {
        ReturnGrades desk = new ReturnGrades();
        for (int i = 0; i < 66; i++) {
            desk.pass(30);
        }
        checks.refused("10: the day 2001", desk, STATE, () -> desk.pass(21));
        checks.refused("10: 31 days come before the day", desk, ARGUMENT, () -> desk.pass(31));
        checks.due("10: the day 2000", desk.pass(20), 0);
        checks.due("10: the number of the last day", desk.count(7), 2000);
        checks.refused("10: a day behind it", desk, STATE, () -> desk.pass(1));
    }
}
