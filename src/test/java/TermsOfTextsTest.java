import java.util.function.Consumer;

/** As TermsTest: a test of its own for each sentence of the terms 'Input text', 'Settings' and 'Undo'. */
public final class TermsOfTextsTest {
    private static final Class<IllegalArgumentException> ARGUMENT = IllegalArgumentException.class;
    private static final Class<IllegalStateException> STATE = IllegalStateException.class;
    private static final int NONE = ReturnGrades.NONE;

    private static final Checks checks = new Checks();

    public static void main(String[] args) {
        sixtyCharacters();
        oneOrMoreUnits();
        products();
        reasons();
        scoresOfATest();
        withoutScores();
        anyLength();
        firstOfSeveralErrors();
        settingsAtFirst();
        settingsInRange();
        settingsInNoOrder();
        savesThoughNothingChanges();
        savesEachUndoable();
        savesNothing();
        savesNothingWhenItThrows();
        sixStates();
        allButTheBuffer();
        undoIsNotUndone();
        checks.end();
    }

    private static void dueError(String text, int want) {
        ReturnGrades desk = new ReturnGrades();
        Checks.type(desk, text);
        checks.due("firstError of " + text, desk.firstError(), want);
    }

    private static void dueUnits(String text, int want) {
        ReturnGrades desk = new ReturnGrades();
        Checks.type(desk, text);
        checks.due("no error in " + text, desk.firstError(), text.length());
        checks.due("units of " + text, desk.receiveAll(), want);
        checks.due("the buffer behind " + text, desk.clearBuffer(), 0);
    }

    private static void dueRefused(String text) {
        ReturnGrades desk = new ReturnGrades();
        Checks.type(desk, text);
        checks.refused("units of " + text, desk, ARGUMENT, desk::receiveAll);
        checks.due("the buffer behind " + text, desk.clearBuffer(), text.length());
    }

    /** "The buffer has at most 60 characters." The 60th one is taken; behind clearing and receiving there is room. */
    private static void sixtyCharacters() {
        ReturnGrades desk = new ReturnGrades();
        String text = "p0r0;p1r1;p2r2;p3r3;p4r0;p5r1;p0r2;p1r3;p2r0;p3r1;p4r2:1234x";
        for (int i = 0; i < 60; i++) {
            checks.due("the length", desk.append(text.charAt(i)), i + 1);
        }
        checks.refused("the 61st", desk, STATE, () -> desk.append(';'));
        checks.due("its last character is an error", desk.firstError(), 59);
        checks.due("its length", desk.clearBuffer(), 60);
        checks.due("room again", desk.append('p'), 1);
        desk.clearBuffer();
        Checks.type(desk, "p0r0;p1r1:0000;p2r2:1111;p3r3:2222;p4r0:3333;p5r1:4444;p0r2;".substring(0, 59));
        checks.due("the 60th of returns", desk.append(';'), 60);
        checks.due("none of the 60 is an error", desk.firstError(), 60);
        checks.refused("but they are not complete", desk, ARGUMENT, desk::receiveAll);
    }

    /** "Returns as a text are one or more units with ";" between them". */
    private static void oneOrMoreUnits() {
        dueRefused("");
        dueUnits("p0r0", 1);
        dueUnits("p0r0;p0r0", 2);
        dueUnits("p0r0;p1r1;p2r2;p3r3;p4r0;p5r1;p0r2;p1r3;p2r0;p3r1;p4r2;p5r3", 12);
        dueRefused("p0r0;");
        dueRefused(";p0r0");
        dueRefused("p0r0;;p0r0");
        dueRefused("p0r0p0r0");
        dueRefused("p0r0,p0r0");
        dueError(";p0r0", 0);
        dueError("p0r0;;p0r0", 5);
        dueError("p0r0p0r0", 4);
        dueError("p0r0;", 5);
    }

    /** "each "p", a product, 0 to 5". */
    private static void products() {
        for (int code = 33; code <= 126; code++) {
            boolean fits = code >= '0' && code <= '5';
            dueError("p" + (char) code + "r0", fits ? 4 : 1);
            dueError("p0r0;p" + (char) code, fits ? 7 : 6);
            if (fits) {
                checks.due("the product", Checks.deskWith("p" + (char) code + "r0").unit(0, 0), code - '0');
            }
        }
        dueRefused("p6r0");
        dueRefused("pr0");
        dueRefused("p00r0");
        dueRefused("P0r0");
        dueRefused("0r0");
    }

    /** ""r", a reason, 0 to 3". */
    private static void reasons() {
        for (int code = 33; code <= 126; code++) {
            boolean fits = code >= '0' && code <= '3';
            dueError("p0r" + (char) code + ":1", fits ? 6 : 3);
            if (fits) {
                checks.due("the reason", Checks.deskWith("p0r" + (char) code).unit(0, 1), code - '0');
            }
        }
        dueRefused("p0r4");
        dueRefused("p0r");
        dueRefused("p00");
        dueRefused("p0R0");
        dueRefused("p0r00");
    }

    /** "and perhaps ":" and four scores, one digit each": 0 to 9, neither three nor five of them. */
    private static void scoresOfATest() {
        for (int code = 33; code <= 126; code++) {
            boolean fits = code >= '0' && code <= '9';
            for (int test = 0; test < 4; test++) {
                dueError("p0r0:" + "0000".substring(0, test) + (char) code, 5 + test + (fits ? 1 : 0));
            }
        }
        for (int score = 0; score <= 9; score++) {
            ReturnGrades desk = Checks.deskWith("p0r0:" + score + (9 - score) + "09");
            checks.due("a score", desk.unit(0, 2), score);
            checks.due("another score", desk.unit(0, 3), 9 - score);
            checks.due("a score of 0", desk.unit(0, 4), 0);
            checks.due("a score of 9", desk.unit(0, 5), 9);
        }
        dueRefused("p0r0:");
        dueRefused("p0r0:999");
        dueRefused("p0r0:99999");
        dueRefused("p0r0:;p0r0");
        dueRefused("p0r0:999;p0r0");
        dueError("p0r0:999;", 8);
        dueError("p0r0:99999", 9);
        dueError("p0r0:;", 5);
        dueError("p0r09999", 4);
    }

    /** "(without these it has none)": not those of the unit before it either, and not 0. */
    private static void withoutScores() {
        ReturnGrades desk = Checks.deskWith("p0r0:1234;p0r0;p0r0:5678");
        int[][] due = {{1, 2, 3, 4, 2}, {NONE, NONE, NONE, NONE, NONE}, {5, 6, 7, 8, 1}};
        for (int unit = 0; unit < 3; unit++) {
            for (int what = 2; what <= 6; what++) {
                checks.due("unit(" + unit + ", " + what + ")", desk.unit(unit, what), due[unit][what - 2]);
            }
        }
    }

    /**
     * "a character is a syntax error if no returns as a text, of any length, begin with the characters before it and
     * this character": neither 60 characters nor 20 units bound the text that it might begin.
     */
    private static void anyLength() {
        String eleven = "p0r0;".repeat(11);
        dueError(eleven, 55);
        dueError(eleven + "p0r0;", 60);
        dueError(eleven + "p0r0:", 60);
        dueError("p0r0;" + "p0r0:1234;".repeat(5) + "p0r0:", 60);
        dueError("p0r0:1234;".repeat(5) + "p0r0:1234", 59);
        dueError("p0r0:1234;".repeat(6), 60);
        dueError(eleven + "p0r0p", 59);
        ReturnGrades full = new ReturnGrades();
        for (int unit = 0; unit < 20; unit++) {
            full.receive(0, 0);
        }
        Checks.type(full, "p0r0;p0");
        checks.due("no room for the units, but no error", full.firstError(), 7);
    }

    /** "Finds the first syntax error": what comes behind it, also a good unit, makes it no better and no other. */
    private static void firstOfSeveralErrors() {
        dueError("x", 0);
        dueError("xp0r0", 0);
        dueError("xxxx", 0);
        dueError("p0r0:12x4;p9r0", 7);
        dueError("p0xr0", 2);
        dueError("p0r0xx;p0r0", 4);
        dueRefused("p0r0:12x34");
        dueRefused("xp0r0");
        dueRefused("p0r0;x;p0r0");
        ReturnGrades desk = new ReturnGrades();
        Checks.type(desk, "px");
        desk.clearBuffer();
        Checks.type(desk, "p0r0");
        checks.due("an error that was cleared", desk.firstError(), 4);
        checks.due("the units then", desk.receiveAll(), 1);
    }

    /** "at first 30, 20 and 10 ...; 3: ..., at first 2; 4: ..., at first 3." */
    private static void settingsAtFirst() {
        ReturnGrades desk = new ReturnGrades();
        int[] due = {30, 20, 10, 2, 3};
        for (int setting = 0; setting < due.length; setting++) {
            checks.due("setting " + setting + " at first", desk.setting(setting), due[setting]);
        }
    }

    /** "the sums ..., 0 to 36 each ...; units ... in a day, 1 to 5 ...; the cost of a point, 0 to 20". */
    private static void settingsInRange() {
        int[] lowest = {0, 0, 0, 1, 0};
        int[] highest = {36, 36, 36, 5, 20};
        for (int setting = 0; setting < 5; setting++) {
            ReturnGrades desk = new ReturnGrades();
            int number = setting;
            int before = desk.setting(setting);
            for (int value = lowest[setting]; value <= highest[setting]; value++) {
                checks.due("the value before", desk.set(setting, value), before);
                checks.due("the value", desk.setting(setting), value);
                before = value;
            }
            checks.refused("above " + setting, desk, ARGUMENT, () -> desk.set(number, highest[number] + 1));
            checks.refused("below " + setting, desk, ARGUMENT, () -> desk.set(number, lowest[number] - 1));
            for (int other = 0; other < 5; other++) {
                if (other != setting) {
                    checks.due("another setting", desk.setting(other), new ReturnGrades().setting(other));
                }
            }
        }
    }

    /** "(they need not be in order)". */
    private static void settingsInNoOrder() {
        ReturnGrades desk = Checks.deskWith("p0r0:5555");
        checks.due("setting 0 below the others", desk.set(0, 0), 30);
        checks.due("setting 2 above the others", desk.set(2, 36), 10);
        checks.due("setting 1 below setting 2", desk.set(1, 1), 20);
        checks.due("the grade", desk.unit(0, 6), 0);
        desk.set(0, 21);
        checks.due("below settings 0 and 2", desk.unit(0, 6), 1);
        desk.set(1, 21);
        checks.due("below all", desk.unit(0, 6), 3);
        desk.set(2, 20);
        checks.due("just setting 2", desk.unit(0, 6), 2);
    }

    /** "saves the state from before it (also if it changes nothing)". */
    private static void savesThoughNothingChanges() {
        dueSaved("product", desk -> desk.product(0, 100, 0));
        dueSaved("recall", desk -> desk.recall(0, false));
        dueSaved("agree", desk -> desk.agree(0, 0, 50));
        dueSaved("limit", desk -> desk.limit(0, 1000));
        dueSaved("set", desk -> desk.set(0, 30));
        dueSaved("test", desk -> desk.test(0, 0, 5));
    }

    private static void dueSaved(String name, Consumer<ReturnGrades> change) {
        ReturnGrades desk = Checks.deskWith("p0r0:5555");
        long before = desk.digest();
        change.accept(desk);
        checks.due("a saved state for " + name, desk.count(13), 2);
        checks.due("so undo drops it, " + name, desk.undo(), 1);
        checks.due("the digest behind it, " + name, desk.digest(), before);
    }

    /** "Each method that is marked "undoable"": pass() and receiveAll() "as one call". */
    private static void savesEachUndoable() {
        dueSaved("product that changes", desk -> desk.product(5, 1, 3));
        dueSaved("recall that changes", desk -> desk.recall(0, true));
        dueSaved("agree that changes", desk -> desk.agree(3, 3, 1));
        dueSaved("limit that changes", desk -> desk.limit(3, 1));
        dueSaved("set that changes", desk -> desk.set(4, 1));
        dueSaved("receive", desk -> desk.receive(5, 3));
        dueSaved("test that changes", desk -> desk.test(0, 3, 1));
        dueSaved("send to the workshop", desk -> desk.send(0, 1));
        dueSaved("send to a buyer", desk -> desk.send(0, 2));
        dueSaved("send to scrap", desk -> desk.send(0, 3));
        dueSaved("pass", desk -> desk.pass(30));
        dueSaved("claim", desk -> desk.claim(0));
        dueSaved("closePeriod", desk -> desk.closePeriod());
        dueSaved("receiveAll", desk -> Checks.add(desk, "p0r0;p1r1:1234;p2r2"));
    }

    /** The others are not marked: they save nothing. */
    private static void savesNothing() {
        ReturnGrades desk = Checks.deskWith("p0r0:5555");
        desk.append('p');
        desk.firstError();
        desk.clearBuffer();
        desk.unit(0, 0);
        desk.productOf(0, 0);
        desk.vendor(0, 0);
        desk.inWorkshop(0);
        desk.waiting(0);
        desk.count(0);
        desk.setting(0);
        desk.whyNot(0, 1);
        desk.ifRepaired(0, 0);
        desk.bestRoute(0);
        desk.ifClosed();
        desk.claimable(0);
        desk.workDays();
        desk.backShare();
        desk.digest();
        checks.due("one saved state, of receiveAll()", desk.count(13), 1);
        desk.undo();
        checks.due("undo saves nothing", desk.count(13), 0);
    }

    /** "and does not throw an exception saves the state": with six saved states a refused call drops none. */
    private static void savesNothingWhenItThrows() {
        ReturnGrades desk = Checks.deskWith("p0r0");
        for (int value = 1; value <= 6; value++) {
            desk.limit(0, value);
        }
        checks.refused("a limit", desk, ARGUMENT, () -> desk.limit(0, -1));
        checks.refused("a claim", desk, STATE, () -> desk.claim(0));
        checks.refused("a route", desk, STATE, () -> desk.send(0, 2));
        checks.refused("days", desk, ARGUMENT, () -> desk.pass(0));
        checks.refused("a text", desk, ARGUMENT, desk::receiveAll);
        for (int left = 5; left >= 0; left--) {
            desk.undo();
            checks.due("the limit of the saved state", desk.vendor(0, 0), left == 0 ? 1000 : left);
        }
    }

    /** "At most 6 states are saved; the oldest one is dropped first." */
    private static void sixStates() {
        for (int changes = 0; changes <= 14; changes++) {
            ReturnGrades desk = new ReturnGrades();
            for (int value = 1; value <= changes; value++) {
                desk.limit(1, value);
            }
            int saved = Math.min(changes, 6);
            checks.due("saved states behind " + changes, desk.count(13), saved);
            for (int back = 1; back <= saved; back++) {
                checks.due("states that are left", desk.undo(), saved - back);
                checks.due("the limit then", desk.vendor(1, 0), changes == back ? 1000 : changes - back);
            }
            checks.refused("no more behind " + changes, desk, STATE, desk::undo);
        }
    }

    /** "all but the buffer and the saved states": undo leaves the buffer, and drops one state alone. */
    private static void allButTheBuffer() {
        ReturnGrades desk = new ReturnGrades();
        Checks.type(desk, "p0r0");
        desk.receive(1, 1);
        desk.append(';');
        checks.due("no state is left", desk.undo(), 0);
        checks.due("the buffer of now", desk.firstError(), 5);
        Checks.type(desk, "p2r2");
        checks.due("its units", desk.receiveAll(), 2);
        Checks.type(desk, "x");
        desk.undo();
        checks.due("undo does not bring a text back", desk.clearBuffer(), 1);
        checks.due("but takes its units away", desk.count(0), 0);
    }

    /** "Restores the latest saved state, and drops it": undo again goes further back; what comes then saves anew. */
    private static void undoIsNotUndone() {
        ReturnGrades desk = new ReturnGrades();
        desk.limit(0, 1);
        desk.limit(0, 2);
        desk.limit(0, 3);
        checks.due("two are left", desk.undo(), 2);
        checks.due("one back", desk.vendor(0, 0), 2);
        checks.due("one is left", desk.undo(), 1);
        checks.due("two back", desk.vendor(0, 0), 1);
        desk.limit(0, 9);
        checks.due("saved anew", desk.count(13), 2);
        desk.undo();
        checks.due("back to what was before it", desk.vendor(0, 0), 1);
        desk.undo();
        checks.due("back to the first", desk.vendor(0, 0), 1000);
    }
}
