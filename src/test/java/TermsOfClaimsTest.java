/** As TermsTest: a test of its own for each sentence of the terms under 'Claims'. */
public final class TermsOfClaimsTest {
    private static final Class<IllegalStateException> STATE = IllegalStateException.class;
    private static final int NONE = ReturnGrades.NONE;

    private static final Checks checks = new Checks();

    public static void main(String[] args) {
        onceForEachUnit();
        testedAndHere();
        amount();
        gradeAsItIsThen();
        atMostTheLimit();
        eachVendorByItself();
        claimOfZero();
        otherwiseItWaits();
        paidInThePeriodIsZero();
        greatestAmountFirst();
        lowestNumberOfSeveral();
        eachOneThatCanBePaid();
        waitsThroughPeriods();
        vendorAndAmountStay();
        endedUnitsStillWait();
        checks.end();
    }

    /** "A claim can be made once for each unit": not again when it is paid, when it waits, or when a period ends. */
    private static void onceForEachUnit() {
        ReturnGrades desk = Checks.deskWith("p0r0:1111;p0r0:1111");
        desk.limit(0, 50);
        desk.claim(0);
        desk.claim(1);
        checks.refused("when it is paid", desk, STATE, () -> desk.claim(0));
        checks.refused("when it waits", desk, STATE, () -> desk.claim(1));
        desk.closePeriod();
        checks.refused("in the next period", desk, STATE, () -> desk.claim(0));
        desk.undo();
        desk.undo();
        checks.due("when it is undone", desk.claim(1), 0);
        checks.due("two claims", desk.count(12), 2);
    }

    /** "for each unit that is tested and in stock or in the workshop". */
    private static void testedAndHere() {
        ReturnGrades desk = Checks.deskWith("p0r0:1111;p0r0:1111;p0r0:5555;p0r0:5555;p1r0:5555;p0r0");
        desk.send(1, 1);
        desk.send(2, 2);
        desk.send(3, 3);
        desk.recall(1, true);
        desk.send(4, 4);
        checks.due("in stock", desk.claim(0), 1);
        checks.due("in the workshop", desk.claim(1), 1);
        checks.refused("sold", desk, STATE, () -> desk.claim(2));
        checks.refused("scrapped", desk, STATE, () -> desk.claim(3));
        checks.refused("sent back", desk, STATE, () -> desk.claim(4));
        checks.refused("not tested", desk, STATE, () -> desk.claim(5));
        ReturnGrades held = Checks.deskWith("p0r0:1111;p0r0:1111");
        held.send(1, 1);
        held.recall(0, true);
        checks.due("held in stock", held.claim(0), 1);
        checks.due("held in the workshop", held.claim(1), 1);
    }

    /**
     * "its amount is the cost of the product times the agreement of its vendor for its reason, divided by 100, and
     * this times the grade as it is then, divided by 3." Each division is rounded down by itself: 199 * 33 / 100 is 65.
     */
    private static void amount() {
        int[][] due = {{199, 33, 0, 21, 43, 65}, {1, 50, 0, 0, 0, 0}, {1, 100, 0, 0, 0, 1},
            {9999, 100, 0, 3333, 6666, 9999}, {9999, 0, 0, 0, 0, 0}, {150, 1, 0, 0, 0, 1}, {8, 50, 0, 1, 2, 4}};
        for (int[] row : due) {
            ReturnGrades desk = Checks.deskWith("p2r3:9999;p2r3:5555;p2r3:3333;p2r3:1111");
            desk.product(2, row[0], 1);
            desk.agree(1, 3, row[1]);
            for (int grade = 0; grade <= 3; grade++) {
                desk.claim(grade);
                checks.due("the cost " + row[0] + " at " + row[1] + ", grade " + grade, desk.unit(grade, 10),
                    row[2 + grade]);
            }
        }
    }

    /** "the grade as it is then": behind the workshop, behind another test, by other settings. */
    private static void gradeAsItIsThen() {
        ReturnGrades desk = Checks.deskWith("p0r0:1111;p0r0:1111;p0r0:1111");
        desk.send(0, 1);
        desk.pass(1);
        desk.claim(0);
        checks.due("behind the workshop", desk.unit(0, 10), 16);
        desk.test(1, 0, 7);
        desk.claim(1);
        checks.due("behind another test", desk.unit(1, 10), 33);
        desk.set(0, 4);
        desk.claim(2);
        checks.due("by other settings", desk.unit(2, 10), 0);
    }

    /** "If the amount and what the vendor paid in the period are at most its limit together, it is paid at once". */
    private static void atMostTheLimit() {
        int[][] due = {{49, 0, 0}, {50, 1, 0}, {99, 1, 0}, {100, 1, 1}, {101, 1, 1}};
        for (int[] row : due) {
            ReturnGrades desk = Checks.deskWith("p0r0:1111;p0r0:1111");
            desk.limit(0, row[0]);
            checks.due("50 with the limit " + row[0], desk.claim(0), row[1]);
            checks.due("50 more with the limit " + row[0], desk.claim(1), row[2]);
            checks.due("paid with the limit " + row[0], desk.vendor(0, 1), 50 * (row[1] + row[2]));
            checks.due("it is paid", desk.unit(0, 11), row[1]);
            checks.due("the other is paid", desk.unit(1, 11), row[2]);
        }
    }

    /** The same sentence: "the vendor ... its limit": what another vendor paid does not count. */
    private static void eachVendorByItself() {
        ReturnGrades desk = Checks.deskWith("p0r0:1111;p1r0:1111;p2r0:1111;p3r0:1111");
        for (int vendor = 0; vendor < 4; vendor++) {
            desk.product(vendor, 100, vendor);
            desk.limit(vendor, vendor == 2 ? 49 : 50);
        }
        for (int vendor = 0; vendor < 4; vendor++) {
            checks.due("the vendor " + vendor, desk.claim(vendor), vendor == 2 ? 0 : 1);
        }
        for (int vendor = 0; vendor < 4; vendor++) {
            checks.due("paid by vendor " + vendor, desk.vendor(vendor, 1), vendor == 2 ? 0 : 50);
            checks.due("waits on vendor " + vendor, desk.vendor(vendor, 4), vendor == 2 ? 1 : 0);
        }
    }

    /** "(A claim of 0 is paid at once, if the vendor did not pay more than its limit.)" */
    private static void claimOfZero() {
        ReturnGrades desk = Checks.deskWith("p0r0:1111;p0r0:9999;p0r0:9999;p0r0:9999");
        desk.limit(0, 0);
        checks.due("with the limit 0", desk.claim(1), 1);
        checks.due("its amount", desk.unit(1, 10), 0);
        checks.due("it is paid", desk.unit(1, 11), 1);
        desk.limit(0, 50);
        desk.claim(0);
        checks.due("the limit is just reached", desk.claim(2), 1);
        desk.limit(0, 49);
        checks.due("more was paid than the limit", desk.claim(3), 0);
        checks.due("it waits", desk.vendor(0, 4), 1);
        checks.due("with the amount 0", desk.vendor(0, 5), 0);
        checks.due("in the order", desk.waiting(0), 3);
        checks.due("closing pays nothing for it", desk.closePeriod(), 0);
        checks.due("but it is paid", desk.unit(3, 11), 1);
        checks.due("nothing waits", desk.waiting(0), NONE);
    }

    /** "otherwise it waits." It is not paid in part, and what comes after it can be paid. */
    private static void otherwiseItWaits() {
        ReturnGrades desk = Checks.deskWith("p0r0:1111;p0r0:3333;p0r0:5555");
        desk.limit(0, 49);
        checks.due("50 of 49", desk.claim(0), 0);
        checks.due("nothing is paid", desk.vendor(0, 1), 0);
        checks.due("nothing so far", desk.count(9), 0);
        checks.due("33 of 49", desk.claim(1), 1);
        checks.due("16 of the 16 that are left", desk.claim(2), 1);
        checks.due("the limit is reached", desk.vendor(0, 1), 49);
        checks.due("what waits", desk.vendor(0, 5), 50);
        desk.limit(0, 99999);
        checks.due("a greater limit alone pays nothing", desk.unit(0, 11), 0);
    }

    /** "When a period is closed, what the vendors paid in the period is 0 for all". */
    private static void paidInThePeriodIsZero() {
        ReturnGrades desk = Checks.deskWith("p0r0:1111;p1r0:1111;p2r0:1111;p3r0:1111");
        for (int vendor = 0; vendor < 4; vendor++) {
            desk.product(vendor, 100, vendor);
            desk.claim(vendor);
            checks.due("paid by vendor " + vendor, desk.vendor(vendor, 1), 50);
        }
        checks.due("nothing waited", desk.closePeriod(), 0);
        for (int vendor = 0; vendor < 4; vendor++) {
            checks.due("in the new period, vendor " + vendor, desk.vendor(vendor, 1), 0);
            checks.due("so far, vendor " + vendor, desk.vendor(vendor, 2), 50);
        }
    }

    /** "in their order: the greatest amount first": whatever the numbers, grades and vendors of the units are. */
    private static void greatestAmountFirst() {
        ReturnGrades desk = Checks.deskWith("p0r0:1111;p1r0:5555;p2r0:3333;p3r0:1111;p4r0:9999");
        int[] costs = {2, 9999, 9999, 9999, 9999};
        for (int product = 0; product < costs.length; product++) {
            desk.product(product, costs[product], product % 4);
        }
        for (int vendor = 0; vendor < 4; vendor++) {
            desk.limit(vendor, 0);
        }
        for (int unit = 0; unit < 4; unit++) {
            checks.due("it waits", desk.claim(unit), 0);
        }
        checks.due("4999, 3332, 1666, 1", Checks.waiting(desk), "3.2.1.0.");
    }

    /** "of several that of the unit with the lowest number": not the one that was claimed for first. */
    private static void lowestNumberOfSeveral() {
        ReturnGrades desk = Checks.deskWith("p0r0:1111;p0r0:1111;p0r0:1111");
        desk.limit(0, 0);
        desk.claim(2);
        desk.claim(0);
        desk.claim(1);
        checks.due("the order", Checks.waiting(desk), "0.1.2.");
        desk.limit(0, 50);
        checks.due("one is paid", desk.closePeriod(), 50);
        checks.due("the lowest number", desk.unit(0, 11), 1);
        checks.due("what waits", Checks.waiting(desk), "1.2.");
    }

    /** "each one that can be paid then is paid": one that cannot does not stop the smaller ones behind it. */
    private static void eachOneThatCanBePaid() {
        ReturnGrades desk = Checks.deskWith("p0r0:1111;p0r0:3333;p0r0:5555;p1r0:1111;p0r0:5555");
        desk.product(1, 98, 1);
        desk.limit(0, 0);
        desk.limit(1, 0);
        for (int unit = 0; unit < 5; unit++) {
            desk.claim(unit);
        }
        desk.limit(0, 49);
        desk.limit(1, 49);
        checks.due("50 cannot; 49 of the other vendor, 33 and 16 can", desk.closePeriod(), 49 + 33 + 16);
        checks.due("what waits", Checks.waiting(desk), "0.4.");
        checks.due("paid in the period by the first", desk.vendor(0, 1), 49);
        checks.due("paid in the period by the other", desk.vendor(1, 1), 49);
        desk.limit(0, 15);
        checks.due("none can", desk.closePeriod(), 0);
        desk.limit(0, 99999);
        checks.due("all can", desk.closePeriod(), 66);
    }

    /** "the claims that wait are gone through" each time: one may wait for several periods. */
    private static void waitsThroughPeriods() {
        ReturnGrades desk = Checks.deskWith("p0r0:1111;p0r0:1111;p0r0:1111");
        desk.limit(0, 50);
        checks.due("one is paid at once", desk.claim(0) + desk.claim(1) + desk.claim(2), 1);
        for (int period = 1; period <= 2; period++) {
            checks.due("one is paid in each period", desk.closePeriod(), 50);
            checks.due("so it is paid", desk.unit(period, 11), 1);
        }
        checks.due("then none", desk.closePeriod(), 0);
        checks.due("three periods", desk.count(11), 3);
    }

    /** "(The vendor and the amount of a claim stay as they were when it was made.)" */
    private static void vendorAndAmountStay() {
        ReturnGrades desk = Checks.deskWith("p0r0:1111;p0r0:1111");
        desk.limit(0, 50);
        desk.claim(0);
        desk.claim(1);
        desk.product(0, 9999, 3);
        desk.agree(0, 0, 1);
        desk.agree(3, 0, 100);
        desk.test(1, 0, 9);
        desk.set(0, 0);
        for (int unit = 0; unit < 2; unit++) {
            checks.due("the amount of unit " + unit, desk.unit(unit, 10), 50);
        }
        checks.due("waits on the vendor then", desk.vendor(0, 4), 1);
        checks.due("its amount", desk.vendor(0, 5), 50);
        checks.due("does not wait on the vendor now", desk.vendor(3, 4), 0);
        desk.limit(3, 0);
        checks.due("paid by the vendor then", desk.closePeriod(), 50);
        checks.due("so it paid", desk.vendor(0, 2), 100);
        checks.due("and the vendor now did not", desk.vendor(3, 2), 0);
    }

    /** "the claims that wait are gone through": that of a unit that came to an end waits and is paid all the same. */
    private static void endedUnitsStillWait() {
        ReturnGrades desk = Checks.deskWith("p0r0:3333;p0r0:3333;p1r0:3333");
        desk.limit(0, 0);
        for (int unit = 0; unit < 3; unit++) {
            desk.claim(unit);
        }
        desk.send(0, 2);
        desk.send(1, 3);
        desk.recall(1, true);
        desk.send(2, 4);
        checks.due("all wait", Checks.waiting(desk), "0.1.2.");
        desk.limit(0, 66);
        checks.due("what closing would pay", desk.ifClosed(), 66);
        checks.due("what it pays", desk.closePeriod(), 66);
        checks.due("one waits", Checks.waiting(desk), "2.");
        checks.due("what a unit brought is without its claim", desk.unit(0, 12), 40);
        checks.due("money by sales", desk.count(8), 40);
        checks.due("money by vendors", desk.count(9), 166);
    }
}
