/** Promises 1 to 6: a new object, products, vendors and settings. */
public final class ProductsTest {
    private static final Class<IndexOutOfBoundsException> INDEX = IndexOutOfBoundsException.class;
    private static final Class<IllegalArgumentException> ARGUMENT = IllegalArgumentException.class;
    private static final int[] NO_INDEX = {-1, Integer.MIN_VALUE, Integer.MAX_VALUE};

    private static final Checks checks = new Checks();

    public static void main(String[] args) {
        newObject();
        product();
        recall();
        agree();
        limit();
        set();
        checks.end();
    }

    private static void newObject() {
        ReturnGrades desk = new ReturnGrades();
        for (int what = 0; what <= 13; what++) {
            checks.due("1: count(" + what + ")", desk.count(what), 0);
        }
        int[] product = {100, 0, 0, 0, 0, 0};
        for (int number = 0; number < 6; number++) {
            for (int what = 0; what < product.length; what++) {
                checks.due("1: productOf(" + number + ", " + what + ")", desk.productOf(number, what), product[what]);
            }
        }
        int[] vendor = {1000, 0, 0, 0, 0, 0, 50, 50, 50, 50};
        for (int number = 0; number < 4; number++) {
            for (int what = 0; what < vendor.length; what++) {
                checks.due("1: vendor(" + number + ", " + what + ")", desk.vendor(number, what), vendor[what]);
            }
        }
        int[] settings = {30, 20, 10, 2, 3};
        for (int number = 0; number < settings.length; number++) {
            checks.due("1: setting(" + number + ")", desk.setting(number), settings[number]);
        }
        checks.due("1: the buffer", desk.clearBuffer(), 0);
        checks.refused("1: nothing to undo", desk, IllegalStateException.class, desk::undo);
    }

    private static void product() {
        ReturnGrades desk = new ReturnGrades();
        checks.due("2: the first cost", desk.product(5, 1, 3), 100);
        checks.due("2: its cost", desk.productOf(5, 0), 1);
        checks.due("2: its vendor", desk.productOf(5, 1), 3);
        checks.due("2: another product", desk.productOf(4, 0), 100);
        checks.due("2: the previous cost", desk.product(5, 9999, 0), 1);
        checks.due("2: saved states", desk.count(13), 2);
        desk.undo();
        checks.due("2: its vendor behind undo", desk.productOf(5, 1), 3);
        checks.due("2: its cost behind undo", desk.productOf(5, 0), 1);
        for (int index : NO_INDEX) {
            checks.refused("2: product " + index, desk, INDEX, () -> desk.product(index, 1, 0));
            checks.refused("2: vendor " + index, desk, INDEX, () -> desk.product(0, 1, index));
        }
        checks.refused("2: product 6", desk, INDEX, () -> desk.product(6, 0, 0));
        checks.refused("2: vendor 4 comes before the cost", desk, INDEX, () -> desk.product(0, 0, 4));
        checks.refused("2: cost 0", desk, ARGUMENT, () -> desk.product(0, 0, 0));
        checks.refused("2: cost 10000", desk, ARGUMENT, () -> desk.product(0, 10000, 0));
    }

    private static void recall() {
        ReturnGrades desk = Checks.deskWith("p0r0:9999;p0r0:1111;p1r0;p0r0:9999");
        desk.send(1, 1);
        desk.send(3, 2);
        checks.due("3: in stock and in the workshop", desk.recall(0, true), 2);
        checks.due("3: it is recalled", desk.productOf(0, 2), 1);
        checks.due("3: of all products", desk.recall(1, true), 3);
        checks.due("3: again", desk.recall(1, true), 3);
        checks.due("3: ended", desk.recall(0, false), 1);
        checks.due("3: it is not recalled", desk.productOf(0, 2), 0);
        checks.due("3: without units", desk.recall(5, true), 1);
        checks.due("3: saved states", desk.count(13), 6);
        desk.undo();
        checks.due("3: behind undo", desk.productOf(5, 2), 0);
        for (int index : NO_INDEX) {
            checks.refused("3: product " + index, desk, INDEX, () -> desk.recall(index, true));
        }
        checks.refused("3: product 6", desk, INDEX, () -> desk.recall(6, false));
    }

    private static void agree() {
        ReturnGrades desk = new ReturnGrades();
        checks.due("4: the first percentage", desk.agree(3, 2, 0), 50);
        checks.due("4: the previous one", desk.agree(3, 2, 100), 0);
        checks.due("4: the agreement", desk.vendor(3, 8), 100);
        checks.due("4: another reason", desk.vendor(3, 7), 50);
        checks.due("4: another vendor", desk.vendor(2, 8), 50);
        checks.due("4: saved states", desk.count(13), 2);
        desk.undo();
        checks.due("4: behind undo", desk.vendor(3, 8), 0);
        for (int index : NO_INDEX) {
            checks.refused("4: vendor " + index, desk, INDEX, () -> desk.agree(index, 0, 0));
            checks.refused("4: reason " + index, desk, INDEX, () -> desk.agree(0, index, 0));
        }
        checks.refused("4: vendor 4 comes before the percentage", desk, INDEX, () -> desk.agree(4, 0, 101));
        checks.refused("4: reason 4 comes before the percentage", desk, INDEX, () -> desk.agree(0, 4, -1));
        checks.refused("4: percent -1", desk, ARGUMENT, () -> desk.agree(0, 0, -1));
        checks.refused("4: percent 101", desk, ARGUMENT, () -> desk.agree(0, 0, 101));
    }

    private static void limit() {
        ReturnGrades desk = new ReturnGrades();
        checks.due("5: the first limit", desk.limit(2, 0), 1000);
        checks.due("5: the previous one", desk.limit(2, 99999), 0);
        checks.due("5: the limit", desk.vendor(2, 0), 99999);
        checks.due("5: another vendor", desk.vendor(1, 0), 1000);
        checks.due("5: saved states", desk.count(13), 2);
        desk.undo();
        checks.due("5: behind undo", desk.vendor(2, 0), 0);
        for (int index : NO_INDEX) {
            checks.refused("5: vendor " + index, desk, INDEX, () -> desk.limit(index, 0));
        }
        checks.refused("5: vendor 4 comes before the limit", desk, INDEX, () -> desk.limit(4, -1));
        checks.refused("5: limit -1", desk, ARGUMENT, () -> desk.limit(0, -1));
        checks.refused("5: limit 100000", desk, ARGUMENT, () -> desk.limit(0, 100000));

        ReturnGrades waits = Checks.deskWith("p0r0:1111");
        waits.limit(0, 10);
        waits.claim(0);
        waits.limit(0, 1000);
        checks.due("5: claims that wait stay", waits.vendor(0, 4), 1);
    }

    private static void set() {
        ReturnGrades desk = new ReturnGrades();
        int[] first = {30, 20, 10, 2, 3};
        int[] lowest = {0, 0, 0, 1, 0};
        int[] highest = {36, 36, 36, 5, 20};
        for (int number = 0; number < first.length; number++) {
            int setting = number;
            checks.due("6: the first value of " + number, desk.set(number, lowest[number]), first[number]);
            checks.due("6: the previous value of " + number, desk.set(number, highest[number]), lowest[number]);
            checks.due("6: the value of " + number, desk.setting(number), highest[number]);
            checks.refused("6: too low for " + number, desk, ARGUMENT, () -> desk.set(setting, lowest[setting] - 1));
            checks.refused("6: too high for " + number, desk, ARGUMENT, () -> desk.set(setting, highest[setting] + 1));
        }
        desk.undo();
        checks.due("6: behind undo", desk.setting(4), 0);
        checks.due("6: the others behind undo", desk.setting(3), 5);
        for (int index : NO_INDEX) {
            checks.refused("6: setting " + index, desk, INDEX, () -> desk.set(index, 2));
        }
        checks.refused("6: setting 5 comes before the value", desk, INDEX, () -> desk.set(5, -1));
    }
}
