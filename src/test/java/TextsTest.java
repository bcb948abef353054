import java.util.function.Consumer;

/** Promises 13 to 17: the buffer, returns as a text, and undo. */
public final class TextsTest {
    private static final Class<IllegalArgumentException> ARGUMENT = IllegalArgumentException.class;
    private static final Class<IllegalStateException> STATE = IllegalStateException.class;
    private static final int NONE = ReturnGrades.NONE;

    private static final Checks checks = new Checks();

    public static void main(String[] args) {
        append();
        clearBuffer();
        firstError();
        firstErrorByReference();
        receiveAll();
        receiveAllIsRefused();
        receiveAllOfALongText();
        undo();
        undoRestoresAll();
        undoRestoresEachRow();
        checks.end();
    }

    private static void append() {
        ReturnGrades desk = new ReturnGrades();
        checks.due("13: the first code", desk.append(33), 1);
        checks.due("13: the last code", desk.append(126), 2);
        checks.due("13: no saved state", desk.count(13), 0);
        checks.refused("13: code 32", desk, ARGUMENT, () -> desk.append(32));
        checks.refused("13: code 127", desk, ARGUMENT, () -> desk.append(127));
        checks.refused("13: a negative code", desk, ARGUMENT, () -> desk.append(Integer.MIN_VALUE));
        for (int length = 3; length <= 60; length++) {
            checks.due("13: the length", desk.append('x'), length);
        }
        checks.refused("13: 61 characters", desk, STATE, () -> desk.append('x'));
        checks.refused("13: the code comes before the length", desk, ARGUMENT, () -> desk.append(32));
    }

    private static void clearBuffer() {
        ReturnGrades desk = new ReturnGrades();
        checks.due("14: an empty buffer", desk.clearBuffer(), 0);
        Checks.type(desk, "px");
        checks.due("14: its length", desk.clearBuffer(), 2);
        checks.due("14: cleared", desk.clearBuffer(), 0);
        checks.due("14: no saved state", desk.count(13), 0);
        Checks.type(desk, "p0r0");
        checks.due("14: no error of before", desk.firstError(), 4);
        desk.receiveAll();
        Checks.type(desk, "p");
        desk.undo();
        checks.due("14: undo leaves the buffer", desk.clearBuffer(), 1);
    }

    private static void firstError() {
        dueError("", 0);
        dueError("p0r0", 4);
        dueError("p5r3:0909;p0r0", 14);
        dueError("x", 0);
        dueError("P", 0);
        dueError(";", 0);
        dueError("p6", 1);
        dueError("p/", 1);
        dueError("p0p", 2);
        dueError("p0r4", 3);
        dueError("p0r0p", 4);
        dueError("p0r00", 4);
        dueError("p0r0;;", 5);
        dueError("p0r0;", 5);
        dueError("p0r0:;", 5);
        dueError("p0r0:123;", 8);
        dueError("p0r0:12345", 9);
        dueError("p0r0:1234:", 9);
        dueError("p0r0:/", 5);
        dueError("p0r0::", 5);
        dueError("p0r0:1234;p0x0", 12);
        dueError("xp0r0", 0);
        dueError("p0r0;p0r0;p0r0;p0r0;p0r0;p0r0;p0r0;p0r0;p0r0;p0r0;p0r0;p0r0;", 60);
    }

    private static void dueError(String text, int want) {
        ReturnGrades desk = new ReturnGrades();
        Checks.type(desk, text);
        checks.due("15: firstError of " + text, desk.firstError(), want);
    }

    /** For each beginning, every character: it is an error unless one of the listed ones. */
    private static void firstErrorByReference() {
        String[] beginnings = {"", "p", "p0", "p0r", "p0r0", "p0r0:", "p0r0:1", "p0r0:12", "p0r0:123", "p0r0:1234",
            "p0r0;"};
        String digits = "0123456789";
        String[] allowed = {"p", "012345", "r", "0123", ":;", digits, digits, digits, digits, ";", "p"};
        for (int i = 0; i < beginnings.length; i++) {
            for (int code = 33; code <= 126; code++) {
                boolean fits = allowed[i].indexOf(code) >= 0;
                dueError(beginnings[i] + (char) code, beginnings[i].length() + (fits ? 1 : 0));
            }
        }
    }

    private static void receiveAll() {
        ReturnGrades desk = new ReturnGrades();
        desk.receive(0, 0);
        Checks.type(desk, "p5r3:0459;p4r2;p0r1:9999");
        checks.due("16: units then", desk.receiveAll(), 4);
        checks.due("16: the buffer is cleared", desk.clearBuffer(), 0);
        checks.due("16: one saved state more", desk.count(13), 2);
        int[][] due = {{5, 3, 0, 4, 5, 9, 2}, {4, 2, NONE, NONE, NONE, NONE, NONE}, {0, 1, 9, 9, 9, 9, 0}};
        for (int i = 0; i < due.length; i++) {
            for (int what = 0; what < due[i].length; what++) {
                checks.due("16: unit(" + (i + 1) + ", " + what + ")", desk.unit(i + 1, what), due[i][what]);
            }
        }
        checks.due("16: undone as one call", desk.undo(), 1);
        checks.due("16: units behind undo", desk.count(0), 1);
        checks.due("16: the buffer behind undo", desk.clearBuffer(), 0);
    }

    private static void receiveAllIsRefused() {
        String[] texts = {"", "p", "p0", "p0r", "p0r0:", "p0r0:123", "p0r0;", "p0r0:1234;", "x", "p0r0x",
            "p0r0;p6r0", "p0r0:1234p", "p0r0;p0r4;p0r0"};
        for (String text : texts) {
            ReturnGrades desk = new ReturnGrades();
            Checks.type(desk, text);
            checks.refused("16: " + text, desk, ARGUMENT, desk::receiveAll);
            checks.due("16: the buffer stays", desk.clearBuffer(), text.length());
        }
        ReturnGrades full = new ReturnGrades();
        for (int i = 0; i < 19; i++) {
            full.receive(0, 0);
        }
        Checks.type(full, "p0r0;p0r0");
        checks.refused("16: 21 units", full, STATE, full::receiveAll);
        full.append(';');
        checks.refused("16: the text comes before the units", full, ARGUMENT, full::receiveAll);
        full.clearBuffer();
        Checks.type(full, "p1r1");
        checks.due("16: 20 units", full.receiveAll(), 20);
        Checks.type(full, "p1r1");
        checks.refused("16: no room for one", full, STATE, full::receiveAll);
    }

    private static void receiveAllOfALongText() {
        ReturnGrades desk = Checks.deskWith("p0r0;p1r1;p2r2;p3r3;p4r0;p5r1;p0r2;p1r3;p2r0;p3r1;p4r2;p5r3");
        checks.due("16: twelve units", desk.count(0), 12);
        for (int unit = 0; unit < 12; unit++) {
            checks.due("16: the product of unit " + unit, desk.unit(unit, 0), unit % 6);
            checks.due("16: the reason of unit " + unit, desk.unit(unit, 1), unit % 4);
        }
    }

    private static void undo() {
        ReturnGrades desk = new ReturnGrades();
        checks.refused("17: nothing is saved", desk, STATE, desk::undo);
        for (int i = 1; i <= 8; i++) {
            desk.limit(0, i);
        }
        checks.due("17: at most six", desk.count(13), 6);
        for (int left = 5; left >= 0; left--) {
            checks.due("17: what is left", desk.undo(), left);
            checks.due("17: the limit behind undo", desk.vendor(0, 0), 2 + left);
        }
        checks.refused("17: the oldest ones were dropped", desk, STATE, desk::undo);
        desk.limit(0, 2);
        checks.due("17: saved though nothing changes", desk.count(13), 1);
        desk.limit(0, 77);
        desk.undo();
        desk.limit(0, 78);
        desk.limit(0, 79);
        checks.due("17: undo, and on", desk.undo(), 2);
        checks.due("17: the limit then", desk.vendor(0, 0), 78);
        checks.due("17: further back", desk.undo(), 1);
        checks.due("17: the limit further back", desk.vendor(0, 0), 2);
    }

    /** Five changes each on a new desk with one saved state; undone one by one, each digest comes back. */
    private static void undoRestoresAll() {
        undoAll("units", d -> d.send(0, 1), d -> d.pass(2), d -> d.test(0, 0, 1), d -> d.send(0, 2),
            d -> d.receive(5, 3));
        undoAll("claims", d -> d.limit(0, 60), d -> d.claim(0), d -> d.claim(1), d -> d.closePeriod(),
            d -> d.send(1, 3));
        undoAll("vendors", d -> d.product(2, 77, 3), d -> d.agree(3, 2, 9), d -> d.recall(2, true), d -> d.send(2, 4),
            d -> d.claim(0));
        undoAll("settings", d -> d.set(0, 1), d -> d.set(1, 2), d -> d.set(2, 3), d -> d.set(3, 4), d -> d.set(4, 5));
    }

    /** Each product, vendor and unit by itself, the first and the last ones too. */
    private static void undoRestoresEachRow() {
        ReturnGrades desk = new ReturnGrades();
        for (int unit = 0; unit < 20; unit++) {
            desk.receive(0, 0);
        }
        for (int product = 0; product < 6; product++) {
            desk.product(product, 5, 1);
            desk.undo();
            checks.due("17: the cost of product " + product, desk.productOf(product, 0), 100);
            checks.due("17: the vendor of product " + product, desk.productOf(product, 1), 0);
        }
        for (int vendor = 0; vendor < 4; vendor++) {
            for (int reason = 0; reason < 4; reason++) {
                desk.agree(vendor, reason, 5);
                desk.undo();
                checks.due("17: the agreement " + vendor + ", " + reason, desk.vendor(vendor, 6 + reason), 50);
            }
        }
        for (int unit = 0; unit < 20; unit++) {
            for (int test = 0; test < 4; test++) {
                desk.test(unit, test, 5);
                desk.undo();
                checks.due("17: the score " + unit + ", " + test, desk.unit(unit, 2 + test), NONE);
            }
        }
    }

    @SafeVarargs
    private static void undoAll(String name, Consumer<ReturnGrades>... changes) {
        ReturnGrades desk = Checks.deskWith("p0r0:1111;p0r1:1111;p2r2:5555;p3r3:9999");
        Checks.type(desk, "p0");
        long[] before = new long[changes.length];
        for (int i = 0; i < changes.length; i++) {
            before[i] = desk.digest();
            changes[i].accept(desk);
        }
        for (int i = changes.length - 1; i >= 0; i--) {
            checks.due("17: states left, " + name + " " + i, desk.undo(), i + 1);
            checks.due("17: the digest behind undo, " + name + " " + i, desk.digest(), before[i]);
        }
    }
}
