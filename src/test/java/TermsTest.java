/**
 * A test of its own for each sentence under 'Terms' that names a bound, a first value or a case at the edge; the
 * sentence stands above it. What is refused beyond the bounds stands in RefusalsTest, the input text and undo in
 * TermsOfTextsTest.
 */
public final class TermsTest {
    private static final int NONE = ReturnGrades.NONE;

    private static final Checks checks = new Checks();

    public static void main(String[] args) {
        roundedDown();
        calls512();
        productsAndVendors();
        firstProducts();
        costs();
        recalledOrNot();
        reasons();
        agreements();
        firstLimits();
        limits();
        twentyUnits();
        scores();
        allFourScores();
        gradeSums();
        gradeSumsAtTheEnds();
        zeroScore();
        testedInStock();
        replacedScore();
        places();
        held();
        toSell();
        prices();
        toScrap();
        toSendBack();
        vendorPaysWhateverItsLimit();
        toTheWorkshop();
        onceBefore();
        dayNumber();
        unitsADay();
        orderOfTheDay();
        notHeldInTheWorkshop();
        scoresBelowSeven();
        pointCosts();
        inStockAgain();
        checks.end();
    }

    /** Makes all scores of a unit the same. */
    private static void testAll(ReturnGrades desk, int unit, int score) {
        for (int test = 0; test < 4; test++) {
            desk.test(unit, test, score);
        }
    }

    /** "divisions are rounded down." The cost 1 is sold for nothing, 199 for 179, 139, 79; and so with claims. */
    private static void roundedDown() {
        String[] units = {"p0r0:9999", "p0r0:5555", "p0r0:3333"};
        int[][] due = {{1, 0, 0, 0}, {2, 1, 1, 0}, {3, 2, 2, 1}, {10, 9, 7, 4}, {11, 9, 7, 4}, {199, 179, 139, 79}};
        for (int[] row : due) {
            for (int grade = 0; grade < 3; grade++) {
                ReturnGrades desk = Checks.deskWith(units[grade]);
                desk.product(0, row[0], 0);
                checks.due("a price of the cost " + row[0], desk.send(0, 2), row[1 + grade]);
            }
        }
        int[][] claims = {{1, 99, 0, 0, 0}, {1, 100, 0, 0, 1}, {101, 50, 16, 33, 50}, {7, 15, 0, 0, 1},
            {9999, 99, 3299, 6599, 9899}, {5, 100, 1, 3, 5}};
        for (int[] row : claims) {
            ReturnGrades desk = Checks.deskWith("p0r0:5555;p0r0:3333;p0r0:1111");
            desk.product(0, row[0], 0);
            desk.agree(0, 0, row[1]);
            for (int unit = 0; unit < 3; unit++) {
                checks.due("a claim of the cost " + row[0], desk.claimable(unit), row[2 + unit]);
                desk.claim(unit);
                checks.due("an amount of the cost " + row[0], desk.unit(unit, 10), row[2 + unit]);
            }
        }
    }

    /** "An object is used for at most 512 calls after it has been made": the 512th one answers as the others do. */
    private static void calls512() {
        ReturnGrades desk = new ReturnGrades();
        for (int call = 1; call <= 510; call++) {
            checks.due("call " + call, desk.limit(call % 4, call), call <= 4 ? 1000 : call - 4);
        }
        checks.due("call 511", desk.undo(), 5);
        checks.due("call 512", desk.vendor(510 % 4, 0), 506);

        ReturnGrades full = new ReturnGrades();
        for (int unit = 0; unit < 20; unit++) {
            full.receive(0, 0);
            testAll(full, unit, 1);
            full.send(unit, 1);
            full.claim(unit);
        }
        for (int call = 141; call < 512; call++) {
            full.closePeriod();
        }
        checks.due("periods at the call 512", full.count(11), 371);
    }

    /** "There are 6 products and 4 vendors, both numbered from 0." */
    private static void productsAndVendors() {
        ReturnGrades desk = new ReturnGrades();
        for (int product = 0; product < 6; product++) {
            desk.product(product, 10 + product, product % 4);
            checks.due("a unit of product " + product, desk.receive(product, 0), product);
        }
        for (int product = 0; product < 6; product++) {
            checks.due("the cost of product " + product, desk.productOf(product, 0), 10 + product);
            checks.due("the vendor of product " + product, desk.productOf(product, 1), product % 4);
            checks.due("the product of unit " + product, desk.unit(product, 0), product);
            checks.due("units of product " + product, desk.productOf(product, 3), 1);
        }
        for (int vendor = 0; vendor < 4; vendor++) {
            desk.limit(vendor, 7 + vendor);
        }
        for (int vendor = 0; vendor < 4; vendor++) {
            checks.due("the limit of vendor " + vendor, desk.vendor(vendor, 0), 7 + vendor);
        }
    }

    /** "A product has a cost, ..., at first 100, and a vendor, at first the vendor 0; ... at first not" recalled. */
    private static void firstProducts() {
        ReturnGrades desk = new ReturnGrades();
        for (int product = 0; product < 6; product++) {
            checks.due("the first cost of " + product, desk.productOf(product, 0), 100);
            checks.due("the first vendor of " + product, desk.productOf(product, 1), 0);
            checks.due("at first not recalled, " + product, desk.productOf(product, 2), 0);
            desk.receive(product, 0);
            checks.due("at first not held, " + product, desk.unit(product, 8), 0);
        }
    }

    /** "A product has a cost, 1 to 9999". */
    private static void costs() {
        for (int product = 0; product < 6; product++) {
            ReturnGrades desk = new ReturnGrades();
            checks.due("the cost before", desk.product(product, 1, 0), 100);
            checks.due("the lowest cost", desk.productOf(product, 0), 1);
            checks.due("the lowest cost before", desk.product(product, 9999, 0), 1);
            checks.due("the highest cost", desk.productOf(product, 0), 9999);
            checks.due("the highest cost before", desk.product(product, 9999, 0), 9999);
        }
    }

    /** "it is recalled or not": to recall it twice is to recall it once, and so with the end of that. */
    private static void recalledOrNot() {
        ReturnGrades desk = Checks.deskWith("p5r0");
        checks.due("no recall to end", desk.recall(5, false), 0);
        checks.due("recalled", desk.recall(5, true), 1);
        checks.due("recalled twice", desk.recall(5, true), 1);
        checks.due("it is", desk.productOf(5, 2), 1);
        checks.due("ended once", desk.recall(5, false), 0);
        checks.due("it is not", desk.productOf(5, 2), 0);
    }

    /** "There are 4 reasons for which units come back, numbered from 0." */
    private static void reasons() {
        ReturnGrades desk = new ReturnGrades();
        for (int reason = 0; reason < 4; reason++) {
            desk.agree(0, reason, 10 + reason);
            desk.receive(0, reason);
            checks.due("the reason " + reason, desk.unit(reason, 1), reason);
            testAll(desk, reason, 1);
        }
        for (int reason = 0; reason < 4; reason++) {
            checks.due("its agreement " + reason, desk.vendor(0, 6 + reason), 10 + reason);
            checks.due("a claim by its reason " + reason, desk.claimable(reason), 10 + reason);
        }
    }

    /** "The agreement with a vendor for a reason is a percentage, 0 to 100, at first 50." */
    private static void agreements() {
        for (int vendor = 0; vendor < 4; vendor++) {
            for (int reason = 0; reason < 4; reason++) {
                ReturnGrades desk = new ReturnGrades();
                desk.product(0, 9999, vendor);
                desk.receive(0, reason);
                testAll(desk, 0, 1);
                checks.due("a claim at 50", desk.claimable(0), 4999);
                checks.due("the first percentage", desk.agree(vendor, reason, 0), 50);
                checks.due("a claim at 0", desk.claimable(0), 0);
                checks.due("the lowest percentage", desk.agree(vendor, reason, 100), 0);
                checks.due("a claim at 100", desk.claimable(0), 9999);
                checks.due("the highest percentage", desk.agree(vendor, reason, 1), 100);
                checks.due("a claim at 1", desk.claimable(0), 99);
            }
        }
    }

    /** "A vendor has a limit for each period, ..., at first 1000, and what it paid ..., at first 0." */
    private static void firstLimits() {
        for (int vendor = 0; vendor < 4; vendor++) {
            ReturnGrades desk = Checks.deskWith("p0r0:1111;p1r0:1111");
            checks.due("the first limit", desk.vendor(vendor, 0), 1000);
            checks.due("paid at first", desk.vendor(vendor, 1), 0);
            desk.product(0, 2002, vendor);
            desk.product(1, 2000, vendor);
            checks.due("1001 are above the first limit", desk.claim(0), 0);
            checks.due("1000 are not", desk.claim(1), 1);
            checks.due("paid then", desk.vendor(vendor, 1), 1000);
        }
    }

    /** "A vendor has a limit for each period, 0 to 99999". Ten claims of 9999 and one of 9 reach it; 1 is too much. */
    private static void limits() {
        ReturnGrades desk = new ReturnGrades();
        desk.limit(3, 99999);
        desk.product(0, 9999, 3);
        desk.product(1, 9, 3);
        desk.product(2, 1, 3);
        desk.agree(3, 0, 100);
        for (int unit = 0; unit < 12; unit++) {
            desk.receive(unit < 10 ? 0 : unit - 9, 0);
            testAll(desk, unit, 1);
        }
        for (int unit = 0; unit < 11; unit++) {
            checks.due("claim " + unit + " up to the highest limit", desk.claim(unit), 1);
        }
        checks.due("the highest limit is paid", desk.vendor(3, 1), 99999);
        checks.due("one above the highest limit", desk.claim(11), 0);
        desk.limit(3, 0);
        checks.due("the limit 0", desk.closePeriod(), 0);
        desk.limit(3, 1);
        checks.due("the limit 1", desk.closePeriod(), 1);
    }

    /** "There are at most 20 units, numbered from 0 in the order in which they came." */
    private static void twentyUnits() {
        ReturnGrades desk = new ReturnGrades();
        checks.due("the first unit", desk.receive(5, 3), 0);
        Checks.add(desk, "p4r2;p3r1");
        checks.due("behind a text", desk.receive(2, 0), 3);
        for (int unit = 4; unit < 19; unit++) {
            checks.due("the unit " + unit, desk.receive(1, 1), unit);
        }
        Checks.type(desk, "p0r2");
        checks.due("twenty units", desk.receiveAll(), 20);
        int[][] due = {{0, 5, 3}, {1, 4, 2}, {2, 3, 1}, {3, 2, 0}, {4, 1, 1}, {18, 1, 1}, {19, 0, 2}};
        for (int[] row : due) {
            checks.due("the product of unit " + row[0], desk.unit(row[0], 0), row[1]);
            checks.due("the reason of unit " + row[0], desk.unit(row[0], 1), row[2]);
        }
        testAll(desk, 19, 9);
        checks.due("the last one is sold", desk.send(19, 2), 90);
        checks.due("a sold one makes no room", desk.count(0), 20);
        checks.refused("a 21st unit", desk, IllegalStateException.class, () -> desk.receive(0, 0));
    }

    /** "has scores of the tests 0 to 3, 0 to 9 each, or none yet." A score of 0 is a score. */
    private static void scores() {
        ReturnGrades desk = Checks.deskWith("p0r0");
        for (int test = 0; test < 4; test++) {
            checks.due("none yet for test " + test, desk.unit(0, 2 + test), NONE);
            desk.test(0, test, 9);
            checks.due("the highest score of test " + test, desk.unit(0, 2 + test), 9);
            desk.test(0, test, 0);
            checks.due("the lowest score of test " + test, desk.unit(0, 2 + test), 0);
        }
        checks.due("four scores of 0 are scores", desk.unit(0, 6), 3);
    }

    /** "It is tested if it has all four." Each one but all four leaves it without a grade. */
    private static void allFourScores() {
        for (int tests = 0; tests < 16; tests++) {
            ReturnGrades desk = Checks.deskWith("p0r0");
            for (int test = 0; test < 4; test++) {
                if ((tests >> test & 1) == 1) {
                    desk.test(0, test, 9);
                }
            }
            boolean all = tests == 15;
            checks.due("the grade with the tests " + tests, desk.unit(0, 6), all ? 0 : NONE);
            checks.due("claimable with the tests " + tests, desk.claimable(0), all ? 0 : NONE);
            checks.due("the repaired grade with the tests " + tests, desk.ifRepaired(0, 0), all ? 0 : NONE);
            checks.due("to sell it with the tests " + tests, desk.whyNot(0, 2), all ? 0 : 3);
            checks.due("the best route with the tests " + tests, desk.bestRoute(0), all ? 2 : NONE);
        }
    }

    /** Four scores with a sum of 4 to 36, none of which is 0. */
    private static String scoresOf(int sum) {
        StringBuilder text = new StringBuilder();
        int left = sum;
        for (int test = 3; test >= 0; test--) {
            int score = Math.min(9, left - test);
            text.append(score);
            left -= score;
        }
        return text.toString();
    }

    /** "0 if that is at least setting 0; otherwise 1 if ... setting 1; otherwise 2 if ... setting 2; otherwise 3". */
    private static void gradeSums() {
        for (int sum = 4; sum <= 36; sum++) {
            ReturnGrades desk = Checks.deskWith("p0r0:" + scoresOf(sum));
            int first = sum >= 30 ? 0 : sum >= 20 ? 1 : sum >= 10 ? 2 : 3;
            checks.due("the grade at first of " + sum, desk.unit(0, 6), first);
            desk.set(0, sum);
            checks.due("the sum is just setting 0, " + sum, desk.unit(0, 6), 0);
            if (sum == 36) {
                continue;
            }
            desk.set(0, sum + 1);
            desk.set(1, sum);
            checks.due("the sum is just setting 1, " + sum, desk.unit(0, 6), 1);
            desk.set(1, sum + 1);
            desk.set(2, sum);
            checks.due("the sum is just setting 2, " + sum, desk.unit(0, 6), 2);
            desk.set(2, sum + 1);
            checks.due("the sum is below all, " + sum, desk.unit(0, 6), 3);
            desk.set(1, sum);
            checks.due("below settings 0 and 2, not 1, " + sum, desk.unit(0, 6), 1);
            desk.set(0, 0);
            checks.due("the first that fits, " + sum, desk.unit(0, 6), 0);
        }
    }

    /** "the sums for the grades 0, 1 and 2, 0 to 36 each": all settings at 36, or at 0. */
    private static void gradeSumsAtTheEnds() {
        ReturnGrades desk = Checks.deskWith("p0r0:9999;p0r0:9998;p0r0:1111;p0r0:0000");
        int[] settings = {0, 1, 2};
        for (int setting : settings) {
            desk.set(setting, 36);
        }
        int[] at36 = {0, 3, 3, 3};
        for (int unit = 0; unit < 4; unit++) {
            checks.due("all at 36, unit " + unit, desk.unit(unit, 6), at36[unit]);
        }
        desk.set(2, 0);
        int[] two = {0, 2, 2, 2};
        for (int unit = 0; unit < 4; unit++) {
            checks.due("setting 2 at 0, unit " + unit, desk.unit(unit, 6), two[unit]);
        }
        desk.set(1, 0);
        int[] one = {0, 1, 1, 2};
        for (int unit = 0; unit < 4; unit++) {
            checks.due("setting 1 at 0, unit " + unit, desk.unit(unit, 6), one[unit]);
        }
        desk.set(0, 0);
        int[] zero = {0, 0, 0, 2};
        for (int unit = 0; unit < 4; unit++) {
            checks.due("setting 0 at 0, unit " + unit, desk.unit(unit, 6), zero[unit]);
        }
    }

    /** "and if some score is 0, it is at least 2." In each place; it makes no grade 3 better, and 1 is not 0. */
    private static void zeroScore() {
        for (int test = 0; test < 4; test++) {
            ReturnGrades desk = Checks.deskWith("p0r0:9999");
            desk.set(0, 27);
            checks.due("a score of 1 in test " + test, desk.test(0, test, 1), 0);
            checks.due("grade 0 by its sum, test " + test, desk.test(0, test, 0), 2);
            desk.set(0, 28);
            checks.due("grade 1 by its sum, test " + test, desk.unit(0, 6), 2);
            desk.set(1, 28);
            checks.due("grade 2 by its sum, test " + test, desk.unit(0, 6), 2);
            desk.set(2, 28);
            checks.due("grade 3 by its sum, test " + test, desk.unit(0, 6), 3);
        }
    }

    /** "It can be tested while it is in stock": held or not, and again behind the workshop. */
    private static void testedInStock() {
        ReturnGrades desk = Checks.deskWith("p0r0:5555;p1r0");
        desk.recall(1, true);
        checks.due("a held one", desk.test(1, 0, 4), NONE);
        desk.send(0, 1);
        checks.refused("in the workshop", desk, IllegalStateException.class, () -> desk.test(0, 0, 4));
        desk.pass(1);
        checks.due("behind the workshop", desk.test(0, 0, 9), 0);
        desk.send(0, 2);
        checks.refused("sold", desk, IllegalStateException.class, () -> desk.test(0, 0, 4));
        desk.send(1, 4);
        checks.refused("sent back", desk, IllegalStateException.class, () -> desk.test(1, 0, 4));
    }

    /** "a score that there is is replaced." */
    private static void replacedScore() {
        ReturnGrades desk = Checks.deskWith("p0r0:9994");
        checks.due("a better one", desk.test(0, 3, 9), 0);
        checks.due("a worse one", desk.test(0, 3, 0), 2);
        checks.due("the one that there is then", desk.unit(0, 5), 0);
        checks.due("the same one", desk.test(0, 3, 0), 2);
    }

    /** "A unit is in stock (0), in the workshop (1), ... sold (2), scrapped (3), or sent back to its vendor (4)." */
    private static void places() {
        ReturnGrades desk = Checks.deskWith("p0r0:5555;p0r0:5555;p0r0:5555;p0r0:5555;p1r0");
        desk.recall(1, true);
        for (int route = 1; route <= 4; route++) {
            checks.due("at first in stock", desk.unit(route, 7), 0);
            desk.send(route, route);
            checks.due("the place " + route, desk.unit(route, 7), route);
            checks.due("one in the place " + route, desk.count(1 + route), 1);
        }
        checks.due("one in stock", desk.count(1), 1);
    }

    /** "A unit in stock or in the workshop is held as long as its product is recalled." */
    private static void held() {
        ReturnGrades desk = Checks.deskWith("p0r0:5555;p0r0:5555;p0r0:5555;p0r0:5555;p0r0;p1r0:5555");
        for (int unit = 1; unit <= 3; unit++) {
            desk.send(unit, unit);
        }
        checks.due("recalled", desk.recall(0, true), 3);
        desk.send(4, 4);
        int[] due = {1, 1, 0, 0, 0, 0};
        for (int unit = 0; unit < due.length; unit++) {
            checks.due("held, unit " + unit, desk.unit(unit, 8), due[unit]);
        }
        desk.receive(0, 0);
        checks.due("one that comes while it is recalled", desk.unit(6, 8), 1);
        checks.due("three held", desk.count(6), 3);
        desk.recall(0, false);
        for (int unit = 0; unit <= 6; unit++) {
            checks.due("not held any more, unit " + unit, desk.unit(unit, 8), 0);
        }
    }

    /** "To sell a unit it has to be in stock, tested, not held, and of a grade below 3." */
    private static void toSell() {
        ReturnGrades desk = Checks.deskWith("p0r0:4321;p0r0:4311;p0r0;p0r0:5555;p1r0:9999");
        desk.recall(1, true);
        desk.send(3, 1);
        int[] due = {0, 4, 3, 1, 2};
        for (int unit = 0; unit < due.length; unit++) {
            checks.due("to sell unit " + unit, desk.whyNot(unit, 2), due[unit]);
        }
        checks.due("the sum 10 is sold", desk.send(0, 2), 40);
        checks.refused("the sum 9 is not", desk, IllegalStateException.class, () -> desk.send(1, 2));
    }

    /** "Its price is the cost of its product times 90, 70 or 40 for the grades 0, 1 and 2, divided by 100." */
    private static void prices() {
        ReturnGrades desk = Checks.deskWith("p0r0:9993;p0r0:9992;p0r0:5554;p1r0:9999;p1r0:5555;p1r0:3333");
        desk.product(0, 9999, 0);
        desk.product(1, 1, 0);
        int[] due = {8999, 6999, 3999, 0, 0, 0};
        for (int unit = 0; unit < due.length; unit++) {
            checks.due("the price of unit " + unit, desk.send(unit, 2), due[unit]);
            checks.due("what unit " + unit + " brought", desk.unit(unit, 12), due[unit]);
        }
        checks.due("all sales", desk.count(8), 19997);
    }

    /** "To scrap a unit it has to be in stock, tested, and not held." Of any grade, and for no money. */
    private static void toScrap() {
        ReturnGrades desk = Checks.deskWith("p0r0:9999;p0r0:5555;p0r0:3333;p0r0:1111;p1r0:1111;p2r0");
        desk.recall(1, true);
        checks.due("a held one", desk.whyNot(4, 3), 2);
        checks.due("one that is not tested", desk.whyNot(5, 3), 3);
        for (int grade = 0; grade <= 3; grade++) {
            checks.due("scrapped with grade " + grade, desk.send(grade, 3), 0);
            checks.due("a second time", desk.whyNot(grade, 3), 1);
        }
        checks.due("what scrap brought", desk.count(8) + desk.count(9), 0);
    }

    /** "To send a unit back it has to be in stock and held." Tested or not; not from the workshop. */
    private static void toSendBack() {
        ReturnGrades desk = Checks.deskWith("p0r0:1111;p0r0:5555;p0r0;p1r0");
        desk.send(1, 1);
        checks.due("not held", desk.whyNot(0, 4), 2);
        desk.recall(0, true);
        checks.due("held, tested", desk.whyNot(0, 4), 0);
        checks.due("held, in the workshop", desk.whyNot(1, 4), 1);
        checks.due("held, not tested", desk.whyNot(2, 4), 0);
        checks.due("of another product", desk.whyNot(3, 4), 2);
        checks.refused("from the workshop", desk, IllegalStateException.class, () -> desk.send(1, 4));
        checks.due("what it brings", desk.send(2, 4), 100);
        checks.refused("a second time", desk, IllegalStateException.class, () -> desk.send(2, 4));
        desk.recall(0, false);
        checks.refused("when the recall has ended", desk, IllegalStateException.class, () -> desk.send(0, 4));
    }

    /** "The vendor pays the cost of its product, whatever its limit, and this counts for no period." */
    private static void vendorPaysWhateverItsLimit() {
        ReturnGrades desk = Checks.deskWith("p0r0;p0r0;p1r0:1111");
        desk.product(0, 9999, 3);
        desk.product(1, 20, 3);
        desk.recall(0, true);
        desk.limit(3, 0);
        checks.due("with the limit 0", desk.send(0, 4), 9999);
        desk.limit(3, 10);
        checks.due("the limit is whole for a claim", desk.claim(2), 1);
        checks.due("with a limit that is reached", desk.send(1, 4), 9999);
        checks.due("paid in the period", desk.vendor(3, 1), 10);
        checks.due("paid for units", desk.vendor(3, 3), 19998);
        desk.closePeriod();
        checks.due("paid for units behind the period", desk.vendor(3, 3), 19998);
        checks.due("paid by all", desk.count(9), 20008);
    }

    /** "To send a unit to the workshop it has to be in stock, tested, not held, of a grade above 0". */
    private static void toTheWorkshop() {
        ReturnGrades desk = Checks.deskWith("p0r0:9993;p0r0:9992;p0r0:1111;p0r0;p1r0:5555");
        desk.recall(1, true);
        int[] due = {4, 0, 0, 3, 2};
        for (int unit = 0; unit < due.length; unit++) {
            checks.due("to the workshop, unit " + unit, desk.whyNot(unit, 1), due[unit]);
        }
        checks.due("grade 1", desk.send(1, 1), 0);
        checks.due("grade 3", desk.send(2, 1), 0);
        checks.due("it is there", desk.whyNot(2, 1), 1);
        checks.refused("grade 0", desk, IllegalStateException.class, () -> desk.send(0, 1));
    }

    /** "and it can have been there at most once before." */
    private static void onceBefore() {
        ReturnGrades desk = Checks.deskWith("p0r0:1111;p0r0:1111");
        for (int visit = 0; visit < 2; visit++) {
            checks.due("visits before", desk.unit(0, 9), visit);
            checks.due("it can go", desk.whyNot(0, 1), 0);
            checks.due("it goes", desk.send(0, 1), 0);
            desk.pass(1);
        }
        checks.due("twice", desk.unit(0, 9), 2);
        checks.due("not a third time", desk.whyNot(0, 1), 5);
        checks.refused("a third time", desk, IllegalStateException.class, () -> desk.send(0, 1));
        checks.due("another one can go", desk.whyNot(1, 1), 0);
        desk.undo();
        desk.undo();
        checks.due("once again, the second time undone", desk.whyNot(0, 1), 0);
    }

    /** "When a day passes, its number, at first 0, becomes 1 more". */
    private static void dayNumber() {
        ReturnGrades desk = new ReturnGrades();
        checks.due("at first", desk.count(7), 0);
        desk.pass(1);
        checks.due("a day", desk.count(7), 1);
        desk.pass(30);
        checks.due("thirty days more", desk.count(7), 31);
        desk.closePeriod();
        checks.due("a period is no day", desk.count(7), 31);
    }

    /** "the workshop takes on units in it ..., as many as setting 3 tells at most". */
    private static void unitsADay() {
        for (int most = 1; most <= 5; most++) {
            ReturnGrades desk = Checks.deskWith("p0r0:6666;p0r0:6666;p0r0:6666;p0r0:6666;p0r0:6666;p0r0:6666");
            desk.set(3, most);
            for (int unit = 0; unit < 6; unit++) {
                desk.send(unit, 1);
            }
            for (int left = 6; left > 0; left -= most) {
                checks.due("a day with " + left + " of " + most, desk.pass(1), 12 * Math.min(left, most));
                checks.due("what is left of " + most, desk.count(2), Math.max(0, left - most));
            }
            checks.due("a day with none", desk.pass(1), 0);
        }
    }

    /** "the highest grade first ..., of several ... the greatest cost, of these those with the lowest number." */
    private static void orderOfTheDay() {
        ReturnGrades desk = Checks.deskWith("p1r0:5555;p0r0:3333;p1r0:3333;p0r0:1111;p1r0:3333;p0r0:3333");
        desk.product(0, 1, 0);
        desk.product(1, 9999, 0);
        desk.set(3, 1);
        for (int unit = 0; unit < 6; unit++) {
            desk.send(unit, 1);
        }
        int[] order = {3, 2, 4, 1, 5, 0};
        for (int unit : order) {
            checks.due("the next one", desk.inWorkshop(0), unit);
            desk.pass(1);
            checks.due("unit " + unit + " is in stock", desk.unit(unit, 7), 0);
        }
        checks.due("nothing is left", desk.inWorkshop(0), NONE);
    }

    /** "takes on units in it that are not held": held ones take no place of those that are not. */
    private static void notHeldInTheWorkshop() {
        ReturnGrades desk = Checks.deskWith("p0r0:1111;p0r0:1111;p1r0:5555;p1r0:5555;p1r0:5555");
        for (int unit = 0; unit < 5; unit++) {
            desk.send(unit, 1);
        }
        desk.recall(0, true);
        checks.due("two that are not held", desk.pass(1), 2 * 8 * 3);
        checks.due("the third one", desk.pass(1), 8 * 3);
        checks.due("none", desk.pass(30), 0);
        checks.due("the held ones are there", Checks.workshop(desk), "0.1.");
        desk.recall(0, false);
        checks.due("not held any more", desk.pass(1), 2 * 24 * 3);
    }

    /** "Each score below 7 of such a unit becomes 7": 0, 1 and 6 do, 7, 8 and 9 stay. */
    private static void scoresBelowSeven() {
        int[] before = {0, 1, 6, 7, 8, 9};
        int[] behind = {7, 7, 7, 7, 8, 9};
        for (int test = 0; test < 4; test++) {
            for (int i = 0; i < before.length; i++) {
                ReturnGrades desk = Checks.deskWith("p0r0:4444");
                desk.test(0, test, before[i]);
                desk.send(0, 1);
                desk.pass(1);
                for (int other = 0; other < 4; other++) {
                    int due = other == test ? behind[i] : 7;
                    checks.due("a score of " + before[i] + " in test " + test, desk.unit(0, 2 + other), due);
                }
            }
        }
    }

    /** "that costs setting 4 for each point". */
    private static void pointCosts() {
        int[][] due = {{0, 0, 0}, {1, 28, 1}, {3, 84, 3}, {20, 560, 20}};
        for (int[] row : due) {
            ReturnGrades desk = Checks.deskWith("p0r0:0000;p0r0:6777;p0r0:7777");
            desk.set(4, row[0]);
            for (int unit = 0; unit < 3; unit++) {
                desk.send(unit, 1);
            }
            desk.pass(2);
            checks.due("28 points at " + row[0], desk.unit(0, 13), row[1]);
            checks.due("a point at " + row[0], desk.unit(1, 13), row[2]);
            checks.due("no point at " + row[0], desk.unit(2, 13), 0);
            checks.due("both together at " + row[0], desk.count(10), row[1] + row[2]);
            desk.set(4, 5);
            checks.due("what it cost stays", desk.count(10), row[1] + row[2]);
        }
    }

    /** "and the unit is in stock again." It can be sold then; its grade goes by the new scores. */
    private static void inStockAgain() {
        ReturnGrades desk = Checks.deskWith("p0r0:0000");
        desk.send(0, 1);
        checks.due("in the workshop", desk.whyNot(0, 2), 1);
        desk.pass(1);
        checks.due("in stock", desk.unit(0, 7), 0);
        checks.due("no score is 0 any more", desk.unit(0, 6), 1);
        checks.due("none in the workshop", desk.count(2), 0);
        checks.due("sold", desk.send(0, 2), 70);
    }
}
