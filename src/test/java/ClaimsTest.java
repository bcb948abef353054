/** Promises 11 and 12: claims are made, wait, and are paid when a period is closed. */
public final class ClaimsTest {
    private static final Class<IndexOutOfBoundsException> INDEX = IndexOutOfBoundsException.class;
    private static final Class<IllegalStateException> STATE = IllegalStateException.class;
    private static final int NONE = ReturnGrades.NONE;

    private static final Checks checks = new Checks();

    public static void main(String[] args) {
        amounts();
        limits();
        claimOfZero();
        refusedClaims();
        closePeriod();
        closeInOrder();
        claimsStayAsTheyWere();
        checks.end();
    }

    /** 199 * 33 / 100 is 65, and of this the thirds are rounded down: 0, 21, 43, 65. */
    private static void amounts() {
        ReturnGrades desk = Checks.deskWith("p1r2:9999;p1r2:5555;p1r2:3333;p1r2:1111");
        desk.product(1, 199, 3);
        desk.agree(3, 2, 33);
        int[] amounts = {0, 21, 43, 65};
        for (int unit = 0; unit < amounts.length; unit++) {
            checks.due("11: no claim yet", desk.unit(unit, 10), NONE);
            checks.due("11: paid", desk.claim(unit), 1);
            checks.due("11: the amount of unit " + unit, desk.unit(unit, 10), amounts[unit]);
            checks.due("11: unit " + unit + " is paid", desk.unit(unit, 11), 1);
            checks.due("11: it brought nothing else", desk.unit(unit, 12), 0);
        }
        checks.due("11: paid in the period", desk.vendor(3, 1), 129);
        checks.due("11: paid so far", desk.vendor(3, 2), 129);
        checks.due("11: money by vendors", desk.count(9), 129);
        checks.due("11: claims so far", desk.count(12), 4);
        checks.due("11: another vendor", desk.vendor(0, 2), 0);
        checks.due("11: saved states", desk.count(13), 6);
        desk.undo();
        checks.due("11: behind undo", desk.unit(3, 10), NONE);
        checks.due("11: paid in the period behind undo", desk.vendor(3, 1), 64);
    }

    private static void limits() {
        ReturnGrades desk = Checks.deskWith("p0r0:1111;p0r0:1111;p0r0:5555;p0r0:1111");
        desk.limit(0, 66);
        checks.due("11: within the limit", desk.claim(0), 1);
        checks.due("11: above the limit", desk.claim(1), 0);
        checks.due("11: it has an amount", desk.unit(1, 10), 50);
        checks.due("11: it is not paid", desk.unit(1, 11), 0);
        checks.due("11: just the limit, though one waits", desk.claim(2), 1);
        checks.due("11: paid in the period", desk.vendor(0, 1), 66);
        checks.due("11: claims on it that wait", desk.vendor(0, 4), 1);
        checks.due("11: their amounts", desk.vendor(0, 5), 50);
        checks.due("11: claims so far", desk.count(12), 3);
        desk.send(3, 1);
        checks.due("11: from the workshop", desk.claim(3), 0);
        desk.send(0, 3);
        checks.due("11: money by vendors", desk.count(9), 66);
    }

    private static void claimOfZero() {
        ReturnGrades desk = Checks.deskWith("p0r0:1111;p0r0:9999;p0r0:9999");
        desk.claim(0);
        desk.limit(0, 50);
        checks.due("11: a claim of 0 at the limit", desk.claim(1), 1);
        desk.limit(0, 49);
        checks.due("11: a claim of 0 when more was paid", desk.claim(2), 0);
        checks.due("11: it waits", desk.waiting(0), 2);
        checks.due("12: nothing is paid", desk.closePeriod(), 0);
        checks.due("12: but it is settled", desk.unit(2, 11), 1);
    }

    private static void refusedClaims() {
        ReturnGrades desk = Checks.deskWith("p0r0:1111;p0r0;p0r0:3333;p0r0:3333;p1r0:3333;p1r0:3333");
        desk.claim(0);
        checks.refused("11: a second claim", desk, STATE, () -> desk.claim(0));
        checks.refused("11: not tested", desk, STATE, () -> desk.claim(1));
        for (int test = 0; test < 3; test++) {
            desk.test(1, test, 9);
        }
        checks.refused("11: three scores", desk, STATE, () -> desk.claim(1));
        desk.send(2, 2);
        desk.send(3, 3);
        desk.recall(1, true);
        desk.send(4, 4);
        checks.refused("11: sold", desk, STATE, () -> desk.claim(2));
        checks.refused("11: scrapped", desk, STATE, () -> desk.claim(3));
        checks.refused("11: sent back", desk, STATE, () -> desk.claim(4));
        checks.refused("11: unit 6", desk, INDEX, () -> desk.claim(6));
        checks.refused("11: unit -1", desk, INDEX, () -> desk.claim(-1));
        checks.refused("11: a very great number", desk, INDEX, () -> desk.claim(Integer.MAX_VALUE));
        checks.due("11: a held one", desk.claim(5), 1);
    }

    private static void closePeriod() {
        ReturnGrades desk = Checks.deskWith("p0r0:1111;p0r0:1111;p1r0:1111");
        desk.product(1, 200, 1);
        desk.limit(0, 60);
        desk.claim(0);
        desk.claim(1);
        desk.claim(2);
        desk.send(1, 3);
        checks.due("12: what waited is paid", desk.closePeriod(), 50);
        checks.due("12: it is paid", desk.unit(1, 11), 1);
        checks.due("12: it counts for the new period", desk.vendor(0, 1), 50);
        checks.due("12: the other vendor", desk.vendor(1, 1), 0);
        checks.due("12: paid so far", desk.vendor(0, 2), 100);
        checks.due("12: paid so far by the other", desk.vendor(1, 2), 100);
        checks.due("12: money by vendors", desk.count(9), 200);
        checks.due("12: periods", desk.count(11), 1);
        checks.due("12: saved states", desk.count(13), 6);
        desk.undo();
        checks.due("12: behind undo it waits", desk.unit(1, 11), 0);
        checks.due("12: periods behind undo", desk.count(11), 0);
        desk.closePeriod();
        checks.due("12: nothing waits", desk.closePeriod(), 0);
        checks.due("12: nothing was paid in the period", desk.vendor(0, 1), 0);
        checks.due("12: periods then", desk.count(11), 2);
    }

    /** Amounts 33, 50, 16, 50, 33 with the limit 99: 50 (unit 1), not 50, 33 (unit 0), not 33, 16. */
    private static void closeInOrder() {
        ReturnGrades desk = Checks.deskWith("p0r0:3333;p0r0:1111;p0r0:5555;p0r0:1111;p0r0:3333");
        desk.limit(0, 0);
        for (int unit = 0; unit < 5; unit++) {
            checks.due("12: it waits", desk.claim(unit), 0);
        }
        checks.due("12: the order", Checks.waiting(desk), "1.3.0.4.2.");
        desk.limit(0, 99);
        checks.due("12: what fits is paid", desk.closePeriod(), 99);
        checks.due("12: what waits then", Checks.waiting(desk), "3.4.");
        checks.due("12: the next period", desk.closePeriod(), 83);
        checks.due("12: nothing waits then", Checks.waiting(desk), "");
    }

    private static void claimsStayAsTheyWere() {
        ReturnGrades desk = Checks.deskWith("p0r0:1111");
        desk.limit(0, 0);
        desk.claim(0);
        desk.product(0, 9999, 1);
        desk.agree(0, 0, 100);
        desk.set(0, 0);
        checks.due("12: the amount stays", desk.unit(0, 10), 50);
        checks.due("12: the vendor stays", desk.vendor(0, 5), 50);
        checks.due("12: the new vendor has none", desk.vendor(1, 4), 0);
        checks.due("12: not above the limit", desk.closePeriod(), 0);
        desk.limit(0, 50);
        checks.due("12: just the limit", desk.closePeriod(), 50);
        checks.due("12: the vendor that pays", desk.vendor(0, 2), 50);
    }
}
