/** What the tests share: it counts wrong answers, and builds desks. */
final class Checks {
    private static final int NONE = ReturnGrades.NONE;

    private int wrong;

    void due(String call, long got, long want) {
        if (got != want) {
            fault(call + " answered " + got + ", due is " + want);
        }
    }

    void due(String call, double got, double want) {
        if (Double.doubleToLongBits(got) != Double.doubleToLongBits(want)) {
            fault(call + " answered " + got + ", due is " + want);
        }
    }

    /** The call has to throw exactly this class, and to change nothing. */
    void refused(String call, ReturnGrades desk, Class<? extends RuntimeException> want, Runnable run) {
        long before = desk.digest();
        try {
            run.run();
            fault(call + " threw nothing, due is " + want.getSimpleName());
        } catch (RuntimeException thrown) {
            if (thrown.getClass() != want) {
                fault(call + " threw " + thrown.getClass().getSimpleName() + ", due is " + want.getSimpleName());
            }
        }
        due(call + " leaves the digest", desk.digest(), before);
    }

    void fault(String text) {
        wrong++;
        System.out.println(text);
    }

    /** Ends the test: with exit code 1 if an answer was wrong. */
    void end() {
        System.out.println(wrong == 0 ? "all answers are as due" : wrong + " answers are not as due");
        if (wrong != 0) {
            System.exit(1);
        }
    }

    static void type(ReturnGrades desk, String text) {
        for (int i = 0; i < text.length(); i++) {
            desk.append(text.charAt(i));
        }
    }

    /** A desk on which the units of a text have come back. */
    static ReturnGrades deskWith(String text) {
        ReturnGrades desk = new ReturnGrades();
        type(desk, text);
        desk.receiveAll();
        return desk;
    }

    /** The units in the workshop in their order, as digits of a text, with a point behind each. */
    static String workshop(ReturnGrades desk) {
        StringBuilder text = new StringBuilder();
        for (int place = 0; place < 20 && desk.inWorkshop(place) != NONE; place++) {
            text.append(desk.inWorkshop(place)).append('.');
        }
        return text.toString();
    }

    static String waiting(ReturnGrades desk) {
        StringBuilder text = new StringBuilder();
        for (int place = 0; place < 20 && desk.waiting(place) != NONE; place++) {
            text.append(desk.waiting(place)).append('.');
        }
        return text.toString();
    }

    void due(String call, String got, String want) {
        if (!got.equals(want)) {
            fault(call + " answered " + got + ", due is " + want);
        }
    }
}
