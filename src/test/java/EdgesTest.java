/**
 * A test of its own for each sentence of the promises, beside the throws clauses, that names a case at the edge: empty,
 * full, the first, the last, none. The sentence stands above it. What is refused stands in RefusalsTest.
 */
public final class EdgesTest {
    private static final Class<IllegalStateException> STATE = IllegalStateException.class;
    private static final int NONE = ReturnGrades.NONE;

    private static final Checks checks = new Checks();

    public static void main(String[] args) {
        newDesk();
        heldThen();
        waitingClaimsStay();
        numbersOfUnits();
        gradeOfATest();
        moneyOfARoute();
        costOfDays();
        lastDay();
        paidOrWaits();
        closeNothing();
        lengths();
        noError();
        allOrNone();
        stateByState();
        newUnit();
        claimOfAUnit();
        countsOfAProduct();
        numbersOfAVendor();
        placesOfTheWorkshop();
        placesOfClaims();
        countsFromNoneToAll();
        firstReason();
        repairedAtTheEdges();
        bestOfSeveral();
        closedAsItWouldBe();
        claimableAtTheEdges();
        daysOfWork();
        shareAtTheEdges();
        digestAtTheEdges();
        nothingIsChanged();
        checks.end();
    }

    private static ReturnGrades fullDesk(String unit) {
        ReturnGrades desk = new ReturnGrades();
        for (int number = 0; number < 20; number++) {
            Checks.add(desk, unit);
        }
        return desk;
    }

    /** 1: "Creates a desk without units, on the day 0, with an empty buffer." */
    private static void newDesk() {
        ReturnGrades desk = new ReturnGrades();
        checks.due("1: units", desk.count(0), 0);
        checks.due("1: the day", desk.count(7), 0);
        checks.due("1: saved states", desk.count(13), 0);
        checks.due("1: the first error", desk.firstError(), 0);
        checks.due("1: the length", desk.clearBuffer(), 0);
        checks.due("1: the workshop", desk.inWorkshop(0), NONE);
        checks.due("1: the claims", desk.waiting(0), NONE);
        checks.due("1: what closing would pay", desk.ifClosed(), 0);
        checks.due("1: days of work", desk.workDays(), 0);
        checks.due("1: the share", desk.backShare(), 0.0);
        checks.due("1: a second desk is by itself", new ReturnGrades().digest(), desk.digest());
        desk.limit(0, 1);
        checks.due("1: a change of the first", new ReturnGrades().vendor(0, 0), 1000);
    }

    /** 3: "Returns how many units are held then, of all products." From none to all twenty. */
    private static void heldThen() {
        ReturnGrades none = new ReturnGrades();
        checks.due("3: without units", none.recall(0, true), 0);
        ReturnGrades desk = new ReturnGrades();
        for (int unit = 0; unit < 20; unit++) {
            desk.receive(unit < 10 ? 0 : 5, 0);
        }
        checks.due("3: ten of them", desk.recall(0, true), 10);
        checks.due("3: none more", desk.recall(3, true), 10);
        checks.due("3: all", desk.recall(5, true), 20);
        desk.send(0, 4);
        checks.due("3: one was sent back", desk.recall(3, false), 19);
        checks.due("3: those of the other", desk.recall(0, false), 10);
        checks.due("3: none", desk.recall(5, false), 0);
    }

    /** 5: "(Claims that wait stay.)" A greater limit pays none, and a smaller one takes no payment back. */
    private static void waitingClaimsStay() {
        ReturnGrades desk = Checks.deskWith("p0r0:1111;p0r0:1111");
        desk.limit(0, 50);
        desk.claim(0);
        desk.claim(1);
        checks.due("5: the limit before", desk.limit(0, 99999), 50);
        checks.due("5: it waits", desk.waiting(0), 1);
        checks.due("5: paid in the period", desk.vendor(0, 1), 50);
        checks.due("5: the limit before that", desk.limit(0, 0), 99999);
        checks.due("5: the other stays paid", desk.unit(0, 11), 1);
        checks.due("5: paid in the period still", desk.vendor(0, 1), 50);
        checks.due("5: what waits", Checks.waiting(desk), "1.");
    }

    /** 7: "Takes a unit back, without scores. ... Returns its number." The first and the last. */
    private static void numbersOfUnits() {
        ReturnGrades desk = new ReturnGrades();
        for (int unit = 0; unit < 20; unit++) {
            checks.due("7: the number", desk.receive(unit % 6, unit % 4), unit);
            checks.due("7: its last score", desk.unit(unit, 5), NONE);
        }
        for (int left = 19; left >= 14; left--) {
            desk.undo();
        }
        checks.due("7: behind six undone ones", desk.receive(0, 0), 14);
    }

    /** 8: "Returns its grade then, NONE if it is not tested yet." */
    private static void gradeOfATest() {
        ReturnGrades desk = Checks.deskWith("p0r0");
        checks.due("8: one", desk.test(0, 0, 9), NONE);
        checks.due("8: the same again", desk.test(0, 0, 9), NONE);
        checks.due("8: the same again", desk.test(0, 0, 8), NONE);
        checks.due("8: the same, four times", desk.test(0, 0, 7), NONE);
        checks.due("8: two", desk.test(0, 1, 9), NONE);
        checks.due("8: three", desk.test(0, 2, 9), NONE);
        checks.due("8: all", desk.test(0, 3, 9), 0);
        checks.due("8: just not 30", desk.test(0, 3, 4), 1);
        checks.due("8: just 30", desk.test(0, 3, 5), 0);
    }

    /** 9: "Returns the money that it brings." Nothing to the workshop and to scrap; the lowest and the highest cost. */
    private static void moneyOfARoute() {
        int[][] due = {{1, 0, 0, 0, 1}, {2, 0, 1, 0, 2}, {9999, 0, 6999, 0, 9999}};
        for (int[] row : due) {
            for (int route = 1; route <= 4; route++) {
                ReturnGrades desk = Checks.deskWith("p0r0:5555");
                desk.product(0, row[0], 1);
                desk.recall(0, route == 4);
                checks.due("9: the cost " + row[0] + " on route " + route, desk.send(0, route), row[route]);
                checks.due("9: what it brought", desk.unit(0, 12), row[route]);
                checks.due("9: by sales", desk.count(8), route == 2 ? row[2] : 0);
                checks.due("9: by vendors", desk.count(9), route == 4 ? row[4] : 0);
                desk.product(0, 500, 2);
                desk.set(1, 36);
                checks.due("9: what it brought stays", desk.unit(0, 12), row[route]);
                checks.due("9: by its vendor then", desk.vendor(1, 3), route == 4 ? row[4] : 0);
            }
        }
    }

    /** 10: "Returns what the workshop costs in them. ... Undoable, as one call." 1 day, 30 days. */
    private static void costOfDays() {
        ReturnGrades desk = fullDesk("p0r0:6666");
        desk.set(3, 1);
        for (int unit = 0; unit < 20; unit++) {
            desk.send(unit, 1);
        }
        checks.due("10: one day", desk.pass(1), 12);
        checks.due("10: saved states", desk.count(13), 6);
        checks.due("10: nineteen in thirty days", desk.pass(30), 19 * 12);
        checks.due("10: the day", desk.count(7), 31);
        checks.due("10: all are in stock", desk.count(1), 20);
        checks.due("10: undone as one", desk.undo(), 5);
        checks.due("10: the day then", desk.count(7), 1);
        checks.due("10: the cost then", desk.count(10), 12);
        checks.due("10: three days", desk.pass(3), 36);
        checks.due("10: sixteen are left", desk.count(2), 16);
        checks.due("10: those with higher numbers", desk.inWorkshop(0), 4);
    }

    /** 10: "if the number of the day would be above 2000". */
    private static void lastDay() {
        ReturnGrades desk = new ReturnGrades();
        for (int day = 0; day < 1980; day += 30) {
            desk.pass(30);
        }
        checks.refused("10: 21 days from the day 1980", desk, STATE, () -> desk.pass(21));
        desk.pass(19);
        checks.refused("10: 2 days from the day 1999", desk, STATE, () -> desk.pass(2));
        checks.due("10: 1 day from it", desk.pass(1), 0);
        checks.due("10: the last day", desk.count(7), 2000);
        checks.refused("10: 1 day from the last day", desk, STATE, () -> desk.pass(1));
        desk.undo();
        checks.due("10: the last day again", desk.pass(1), 0);
    }

    /** 11: "Returns 1 if it is paid, 0 if it waits." */
    private static void paidOrWaits() {
        ReturnGrades desk = Checks.deskWith("p0r0:1111;p0r0:1111;p0r0:9999");
        desk.limit(0, 50);
        checks.due("11: paid", desk.claim(0), 1);
        checks.due("11: waits", desk.claim(1), 0);
        checks.due("11: paid, though nothing", desk.claim(2), 1);
        checks.due("11: claims so far", desk.count(12), 3);
    }

    /** 12: "Returns the money that is paid for claims that waited." None waits; one of 0; none can be paid. */
    private static void closeNothing() {
        ReturnGrades desk = new ReturnGrades();
        checks.due("12: without units", desk.closePeriod(), 0);
        checks.due("12: it is closed", desk.count(11), 1);
        checks.due("12: and saved", desk.count(13), 1);
        Checks.add(desk, "p0r0:1111;p0r0:1111");
        desk.claim(0);
        checks.due("12: what was paid at once does not count", desk.closePeriod(), 0);
        desk.limit(0, 49);
        desk.claim(1);
        checks.due("12: none can be paid", desk.closePeriod(), 0);
        desk.limit(0, 50);
        checks.due("12: one can", desk.closePeriod(), 50);
        checks.due("12: it is paid once", desk.closePeriod(), 0);
    }

    /** 13: "Returns the new length of the buffer."; 14: "Returns the length that it had." */
    private static void lengths() {
        for (int length : new int[] {0, 1, 59, 60}) {
            ReturnGrades desk = new ReturnGrades();
            for (int i = 1; i <= length; i++) {
                checks.due("13: the length", desk.append(i % 2 == 0 ? 33 : 126), i);
            }
            checks.due("14: the length", desk.clearBuffer(), length);
            checks.due("14: cleared", desk.clearBuffer(), 0);
            checks.due("13: the length then", desk.append('p'), 1);
        }
    }

    /** 15: "the length of the buffer if there is none." Empty, a beginning, complete; an error at the ends. */
    private static void noError() {
        ReturnGrades desk = new ReturnGrades();
        checks.due("15: empty", desk.firstError(), 0);
        String text = "p5r3:9999;p5r3:9999;p5r3:9999;p5r3:9999;p5r3:9999;p5r3:9999;";
        for (int i = 0; i < 60; i++) {
            desk.append(text.charAt(i));
            checks.due("15: no error", desk.firstError(), i + 1);
        }
        desk.clearBuffer();
        Checks.type(desk, text.substring(0, 59) + ":");
        checks.due("15: the last one", desk.firstError(), 59);
        desk.clearBuffer();
        Checks.type(desk, ";" + text.substring(0, 59));
        checks.due("15: the first one", desk.firstError(), 0);
        desk.firstError();
        checks.due("15: the buffer stays", desk.clearBuffer(), 60);
    }

    /** 16: "all or none, and clears the buffer. ... Returns how many units there are then." */
    private static void allOrNone() {
        for (int there : new int[] {16, 17, 18, 19, 20}) {
            ReturnGrades desk = new ReturnGrades();
            for (int unit = 0; unit < there; unit++) {
                desk.receive(0, 0);
            }
            Checks.type(desk, "p1r1;p2r2:1234;p3r3");
            if (there > 17) {
                checks.refused("16: three behind " + there, desk, STATE, desk::receiveAll);
                checks.due("16: none", desk.count(0), there);
                checks.due("16: the buffer stays", desk.clearBuffer(), 19);
            } else {
                checks.due("16: three behind " + there, desk.receiveAll(), there + 3);
                checks.due("16: the first one", desk.unit(there, 0), 1);
                checks.due("16: the last one", desk.unit(there + 2, 0), 3);
                checks.due("16: the buffer", desk.clearBuffer(), 0);
            }
        }
    }

    /** 17: "Returns how many saved states are left." Five to none. */
    private static void stateByState() {
        ReturnGrades desk = new ReturnGrades();
        long[] digests = new long[8];
        for (int change = 0; change < 8; change++) {
            digests[change] = desk.digest();
            desk.receive(change % 6, change % 4);
        }
        for (int left = 5; left >= 0; left--) {
            checks.due("17: what is left", desk.undo(), left);
            checks.due("17: units", desk.count(0), 2 + left);
            desk.append('p');
            desk.clearBuffer();
        }
        checks.refused("17: none", desk, STATE, desk::undo);
        checks.due("17: two units stay", desk.count(0), 2);
        desk.receive(2, 2);
        checks.due("17: a new one", desk.undo(), 0);
        checks.due("17: the digest is that of two units, without states", desk.count(13), 0);
        checks.due("17: at first nothing was saved", digests[0], new ReturnGrades().digest());
    }

    /** 18: "NONE without one", "NONE if it is not tested", "otherwise 0": a unit to which nothing happened. */
    private static void newUnit() {
        ReturnGrades desk = new ReturnGrades();
        desk.receive(5, 3);
        int[] due = {5, 3, NONE, NONE, NONE, NONE, NONE, 0, 0, 0, NONE, 0, 0, 0};
        for (int what = 0; what < due.length; what++) {
            checks.due("18: unit(0, " + what + ")", desk.unit(0, what), due[what]);
        }
    }

    /** 18: "10: the amount of its claim, NONE without one; 11: 1 if its claim is paid, otherwise 0". */
    private static void claimOfAUnit() {
        ReturnGrades desk = Checks.deskWith("p0r0:9999;p0r0:1111;p0r0:1111;p0r0:1111");
        desk.limit(0, 50);
        desk.claim(0);
        desk.claim(1);
        desk.claim(2);
        int[][] due = {{0, 1}, {50, 1}, {50, 0}, {NONE, 0}};
        for (int unit = 0; unit < due.length; unit++) {
            checks.due("18: the amount for unit " + unit, desk.unit(unit, 10), due[unit][0]);
            checks.due("18: it is paid, unit " + unit, desk.unit(unit, 11), due[unit][1]);
        }
    }

    /** 19: "3: units of it that came back; 4: those in stock or in the workshop; 5: those that were sold". */
    private static void countsOfAProduct() {
        ReturnGrades desk = fullDesk("p5r0:5555");
        for (int route = 1; route <= 3; route++) {
            desk.send(route, route);
        }
        desk.recall(5, true);
        desk.send(4, 4);
        int[] due = {100, 0, 1, 20, 17, 1};
        for (int what = 0; what < due.length; what++) {
            checks.due("19: productOf(5, " + what + ")", desk.productOf(5, what), due[what]);
        }
        for (int what = 2; what <= 5; what++) {
            checks.due("19: of another, " + what, desk.productOf(4, what), 0);
        }
    }

    /** 20: of each vendor its own numbers, and 0 of the others. */
    private static void numbersOfAVendor() {
        for (int vendor = 0; vendor < 4; vendor++) {
            ReturnGrades desk = Checks.deskWith("p0r0:1111;p0r3:1111;p0r0:1111;p0r0");
            desk.product(0, 200, vendor);
            desk.limit(vendor, 100);
            for (int unit = 0; unit < 3; unit++) {
                desk.claim(unit);
            }
            desk.closePeriod();
            desk.recall(0, true);
            desk.send(3, 4);
            int[] due = {100, 100, 200, 200, 1, 100, 50, 50, 50, 50};
            int[] other = {1000, 0, 0, 0, 0, 0, 50, 50, 50, 50};
            for (int what = 0; what < due.length; what++) {
                for (int number = 0; number < 4; number++) {
                    checks.due("20: vendor(" + number + ", " + what + ")", desk.vendor(number, what),
                        number == vendor ? due[what] : other[what]);
                }
            }
        }
    }

    /** 21: "its place, from 0 ... NONE if there are not so many." From none to twenty. */
    private static void placesOfTheWorkshop() {
        ReturnGrades desk = fullDesk("p0r0:5555");
        for (int there = 0; there <= 20; there++) {
            checks.due("21: the place " + there, there < 20 ? desk.inWorkshop(there) : NONE, NONE);
            if (there > 0) {
                checks.due("21: the last one of " + there, desk.inWorkshop(there - 1), there - 1);
                checks.due("21: the first one of " + there, desk.inWorkshop(0), 0);
            }
            if (there < 20) {
                desk.send(there, 1);
            }
        }
        desk.recall(0, true);
        checks.due("21: held ones, too", desk.inWorkshop(19), 19);
    }

    /** 22: "its place, from 0 ... NONE if there are not so many." From none to twenty. */
    private static void placesOfClaims() {
        ReturnGrades desk = fullDesk("p0r0:1111");
        desk.limit(0, 0);
        for (int there = 0; there <= 20; there++) {
            checks.due("22: the place " + there, there < 20 ? desk.waiting(there) : NONE, NONE);
            if (there > 0) {
                checks.due("22: the last one of " + there, desk.waiting(there - 1), 19);
                checks.due("22: the first one of " + there, desk.waiting(0), 20 - there);
            }
            if (there < 20) {
                desk.claim(19 - there);
            }
        }
        checks.due("22: all wait", desk.vendor(0, 4), 20);
        checks.due("22: their amounts", desk.vendor(0, 5), 1000);
        desk.limit(0, 1000);
        checks.due("22: all are paid", desk.closePeriod(), 1000);
        checks.due("22: none waits", desk.waiting(0), NONE);
    }

    /** 23: each number of units, from none to twenty. */
    private static void countsFromNoneToAll() {
        for (int place = 0; place <= 4; place++) {
            ReturnGrades desk = fullDesk("p0r0:5555");
            checks.due("23: in stock", desk.count(1), 20);
            desk.recall(0, place == 4);
            for (int unit = 0; unit < 20 && place > 0; unit++) {
                desk.send(unit, place);
            }
            checks.due("23: units", desk.count(0), 20);
            for (int other = 0; other <= 4; other++) {
                checks.due("23: in the place " + other, desk.count(1 + other), other == place ? 20 : 0);
            }
            checks.due("23: none is held", desk.count(6), 0);
            checks.due("23: held, when recalled", desk.recall(0, true), place <= 1 ? 20 : 0);
            checks.due("23: so they are", desk.count(6), place <= 1 ? 20 : 0);
            checks.due("23: by sales", desk.count(8), place == 2 ? 1400 : 0);
            checks.due("23: by vendors", desk.count(9), place == 4 ? 2000 : 0);
        }
    }

    /** 25: "the first one of these that applies": each reason before the ones behind it. */
    private static void firstReason() {
        ReturnGrades desk = Checks.deskWith("p0r0;p0r0:1111;p0r0:9999;p0r0:1111");
        for (int visit = 0; visit < 2; visit++) {
            desk.send(3, 1);
            desk.pass(1);
        }
        dueReasons("not tested", desk, 0, 3, 3, 3, 2);
        dueReasons("grade 3", desk, 1, 0, 4, 0, 2);
        dueReasons("grade 0", desk, 2, 4, 0, 0, 2);
        dueReasons("there twice", desk, 3, 5, 0, 0, 2);
        desk.test(3, 0, 9);
        desk.set(0, 30);
        dueReasons("there twice, grade 0", desk, 3, 4, 0, 0, 2);
        desk.recall(0, true);
        dueReasons("held, not tested", desk, 0, 2, 2, 2, 0);
        dueReasons("held, grade 3", desk, 1, 2, 2, 2, 0);
        dueReasons("held, there twice, grade 0", desk, 3, 2, 2, 2, 0);
        desk.send(0, 4);
        desk.send(1, 4);
        dueReasons("sent back, not tested", desk, 0, 1, 1, 1, 1);
        dueReasons("sent back, grade 3", desk, 1, 1, 1, 1, 1);
        desk.recall(0, false);
        dueReasons("sent back, not recalled", desk, 0, 1, 1, 1, 1);
    }

    private static void dueReasons(String name, ReturnGrades desk, int unit, int... due) {
        for (int route = 1; route <= 4; route++) {
            checks.due("25: " + name + ", route " + route, desk.whyNot(unit, route), due[route - 1]);
        }
    }

    /** 26: "if each score below 7 was 7 ...; the price for this grade, 0 for 3. Returns ... NONE if ... not tested." */
    private static void repairedAtTheEdges() {
        ReturnGrades desk = Checks.deskWith("p0r0:0679;p0r0:7777;p0r0:9999;p0r0;p0r0:0000");
        desk.test(3, 0, 9);
        desk.test(3, 1, 9);
        desk.test(3, 2, 9);
        int[][] due = {{0, 24, 90}, {1, 0, 70}, {0, 0, 90}, {NONE, NONE, NONE}, {1, 84, 70}};
        dueRepaired("at first", desk, due);
        desk.set(0, 36);
        desk.set(1, 36);
        desk.set(2, 29);
        desk.set(4, 0);
        int[][] worse = {{2, 0, 40}, {3, 0, 0}, {0, 0, 90}, {NONE, NONE, NONE}, {3, 0, 0}};
        dueRepaired("with higher sums, and points for nothing", desk, worse);
        desk.product(0, 1, 0);
        checks.due("26: a price of 0", desk.ifRepaired(2, 2), 0);
        checks.due("26: the scores stay", desk.unit(4, 2), 0);
    }

    private static void dueRepaired(String name, ReturnGrades desk, int[][] due) {
        for (int unit = 0; unit < due.length; unit++) {
            for (int what = 0; what <= 2; what++) {
                checks.due("26: " + name + ", ifRepaired(" + unit + ", " + what + ")", desk.ifRepaired(unit, what),
                    due[unit][what]);
            }
        }
    }

    /** 27: "the one that brings most money ...; of several the lowest one; NONE if it can be sent on none." */
    private static void bestOfSeveral() {
        ReturnGrades desk = Checks.deskWith("p0r0:1111;p0r0;p0r0:7777;p1r0");
        desk.set(4, 1);
        int[][] due = {{34, 3}, {35, 1}, {36, 1}};
        for (int[] row : due) {
            desk.product(0, row[0], 0);
            checks.due("27: 24 points and the cost " + row[0], desk.bestRoute(0), row[1]);
        }
        checks.due("27: not tested", desk.bestRoute(1), NONE);
        checks.due("27: the workshop brings as much as a sale", desk.bestRoute(2), 1);
        desk.recall(0, true);
        checks.due("27: held", desk.bestRoute(2), 4);
        checks.due("27: held, not tested", desk.bestRoute(1), 4);
        checks.due("27: another one is not held", desk.bestRoute(3), NONE);
        desk.recall(0, false);
        desk.send(2, 1);
        checks.due("27: in the workshop", desk.bestRoute(2), NONE);
        desk.pass(1);
        desk.send(2, 1);
        desk.pass(1);
        checks.due("27: there twice", desk.bestRoute(2), 2);
        desk.product(0, 1, 0);
        checks.due("27: a sale for nothing is as good as scrap", desk.bestRoute(2), 2);
        desk.send(2, 2);
        checks.due("27: sold", desk.bestRoute(2), NONE);
    }

    /** 28: "Returns what closePeriod() would return." Of claims that wait on several vendors, and of none. */
    private static void closedAsItWouldBe() {
        for (int limit = 0; limit <= 140; limit += 7) {
            ReturnGrades desk = Checks.deskWith("p0r0:1111;p0r0:3333;p0r0:5555;p1r0:1111;p1r0:3333;p0r0:1111");
            desk.product(1, 77, 3);
            desk.claim(5);
            desk.limit(0, 0);
            desk.limit(3, 0);
            for (int unit = 0; unit < 5; unit++) {
                desk.claim(unit);
            }
            checks.due("28: none can be paid", desk.ifClosed(), 0);
            desk.limit(0, limit);
            desk.limit(3, limit / 2);
            int paid = desk.ifClosed();
            checks.due("28: asked again", desk.ifClosed(), paid);
            checks.due("28: nothing is paid yet", desk.count(9), 50);
            checks.due("28: no period is closed", desk.count(11), 0);
            checks.due("28: with the limit " + limit, desk.closePeriod(), paid);
        }
    }

    /** 29: "whether one was made or not; NONE if it is not tested." */
    private static void claimableAtTheEdges() {
        ReturnGrades desk = Checks.deskWith("p0r0:1111;p0r0:1111;p0r0:1111;p0r0:1111;p0r0");
        checks.due("29: none was made", desk.claimable(0), 50);
        desk.limit(0, 50);
        desk.claim(0);
        desk.claim(1);
        desk.agree(0, 0, 60);
        checks.due("29: one is paid", desk.claimable(0), 60);
        checks.due("29: one waits", desk.claimable(1), 60);
        desk.send(2, 3);
        checks.due("29: scrapped, none was made", desk.claimable(2), 60);
        desk.send(3, 1);
        checks.due("29: in the workshop", desk.claimable(3), 60);
        checks.due("29: not tested", desk.claimable(4), NONE);
        desk.recall(0, true);
        desk.send(4, 4);
        desk.send(1, 4);
        checks.due("29: sent back, not tested", desk.claimable(4), NONE);
        checks.due("29: sent back, tested", desk.claimable(1), 60);
        desk.product(0, 1, 3);
        checks.due("29: rounded down to 0", desk.claimable(1), 0);
    }

    /** 30: "behind which no unit that is not held would be in the workshop, if none came." Up to twenty days. */
    private static void daysOfWork() {
        for (int most = 1; most <= 5; most++) {
            ReturnGrades desk = fullDesk("p0r0:5555");
            desk.set(3, most);
            for (int there = 0; there < 20; there++) {
                checks.due("30: " + there + " units, " + most + " a day", desk.workDays(), (there + most - 1) / most);
                desk.send(there, 1);
            }
            int days = desk.workDays();
            checks.due("30: 20 units, " + most + " a day", days, (20 + most - 1) / most);
            desk.pass(days - 1);
            checks.due("30: a day before", desk.workDays(), 1);
            desk.pass(1);
            checks.due("30: done", desk.workDays(), 0);
            checks.due("30: so they are in stock", desk.count(1), 20);
        }
        ReturnGrades held = Checks.deskWith("p0r0:5555;p1r0:5555");
        held.send(0, 1);
        held.send(1, 1);
        held.recall(0, true);
        checks.due("30: one of two is held", held.workDays(), 1);
        held.recall(1, true);
        checks.due("30: both are held", held.workDays(), 0);
    }

    /** 31: "as a double, divided by the sum of the costs (as they are now) ...; 0.0 without units." */
    private static void shareAtTheEdges() {
        ReturnGrades desk = new ReturnGrades();
        checks.due("31: without units", desk.backShare(), 0.0);
        Checks.add(desk, "p0r0:1111;p0r0:9999");
        checks.due("31: nothing came back", desk.backShare(), 0.0);
        desk.set(4, 20);
        desk.send(0, 1);
        desk.pass(1);
        checks.due("31: below -1", desk.backShare(), -480.0 / 200.0);
        desk.product(0, 1, 0);
        checks.due("31: by the lowest cost", desk.backShare(), -480.0 / 2.0);
        desk.product(0, 9999, 0);
        desk.send(1, 2);
        checks.due("31: by the highest cost", desk.backShare(), (8999.0 - 480.0) / 19998.0);
        ReturnGrades undone = Checks.deskWith("p0r0");
        undone.undo();
        checks.due("31: without units again", undone.backShare(), 0.0);

        ReturnGrades even = Checks.deskWith("p0r0:7776;p0r0:9999");
        even.product(0, 10, 0);
        even.set(4, 9);
        even.send(0, 1);
        even.pass(1);
        even.send(1, 2);
        checks.due("31: as much as the workshop cost", even.backShare(), 0.0);
    }

    /** 32: of an empty desk, of a full buffer, and of twenty units: each value of the list counts by itself. */
    private static void digestAtTheEdges() {
        long empty = new ReturnGrades().digest();
        ReturnGrades text = new ReturnGrades();
        long hash = empty;
        for (int length = 1; length <= 60; length++) {
            text.append(32 + length);
            checks.due("32: a character more", text.digest() == hash ? 1 : 0, 0);
            hash = text.digest();
        }
        text.clearBuffer();
        checks.due("32: an empty buffer again", text.digest(), empty);
        digestOfAText();
        ReturnGrades full = fullDesk("p5r3:0123");
        checks.due("32: the same again", full.digest(), full.digest());
        checks.due("32: the same on another desk", full.digest(), fullDesk("p5r3:0123").digest());
        checks.due("32: a score of the last unit", full.digest() == with(full, 19, 3, 4) ? 1 : 0, 0);
    }

    private static long with(ReturnGrades desk, int unit, int test, int score) {
        desk.test(unit, test, score);
        return desk.digest();
    }

    /** "31 * hash + v, in long arithmetic with overflow": the length and the codes come last. */
    private static void digestOfAText() {
        ReturnGrades desk = new ReturnGrades();
        long hash = desk.digest();
        for (int code = 33; code <= 92; code++) {
            desk.append(code);
        }
        hash += 60;
        for (int code = 33; code <= 92; code++) {
            hash = 31 * hash + code;
        }
        checks.due("32: sixty characters", desk.digest(), hash);
    }

    /** "looks; nothing is changed" and "what would be; nothing is changed". */
    private static void nothingIsChanged() {
        ReturnGrades seen = busyDesk();
        for (int unit = 0; unit < seen.count(0); unit++) {
            for (int what = 0; what <= 13; what++) {
                seen.unit(unit, what);
            }
            for (int what = 0; what <= 2; what++) {
                seen.ifRepaired(unit, what);
                seen.whyNot(unit, 1 + what);
            }
            seen.bestRoute(unit);
            seen.claimable(unit);
        }
        for (int number = 0; number <= 13; number++) {
            seen.count(number);
            seen.inWorkshop(number);
            seen.waiting(number);
            seen.productOf(number % 6, number % 6);
            seen.vendor(number % 4, number % 10);
            seen.setting(number % 5);
        }
        seen.ifClosed();
        seen.workDays();
        seen.backShare();
        seen.digest();
        seen.firstError();
        checks.alike("18 to 32: looks", seen, busyDesk());
    }

    private static ReturnGrades busyDesk() {
        ReturnGrades desk = Checks.deskWith("p0r0:1111;p0r0:3333;p1r1:5555;p1r1:5555;p0r0");
        desk.limit(0, 60);
        desk.send(0, 1);
        desk.send(2, 1);
        desk.claim(0);
        desk.claim(1);
        desk.claim(2);
        desk.recall(1, true);
        desk.set(3, 1);
        Checks.type(desk, "p0r0;x");
        return desk;
    }
}
