import java.util.function.Consumer;
import java.util.function.Supplier;

/** What the tests share: it counts wrong answers, and builds desks. */
final class Checks {
    private static final int NONE = ReturnGrades.NONE;

    private int wrong;

    void due(String call, long got, long want) {
        if (got != want) {
            fault(call + " answered " + got + ", due is " + want);
        }
    }

    void due(String call, double got, double want) {
        if (Double.doubleToLongBits(got) != Double.doubleToLongBits(want)) {
            fault(call + " answered " + got + ", due is " + want);
        }
    }

    /** The call has to throw exactly this class, and to change nothing. */
    void refused(String call, ReturnGrades desk, Class<? extends RuntimeException> want, Runnable run) {
        long before = desk.digest();
        try {
            run.run();
            fault(call + " threw nothing, due is " + want.getSimpleName());
        } catch (RuntimeException thrown) {
            if (thrown.getClass() != want) {
                fault(call + " threw " + thrown.getClass().getSimpleName() + ", due is " + want.getSimpleName());
            }
        }
        due(call + " leaves the digest", desk.digest(), before);
    }

    /**
     * Makes a call on one of two desks that are made alike. It has to throw exactly this class, and both desks have to
     * be the same then, down to the last saved state; or nothing, if the class is null.
     */
    void dueOf(String call, Supplier<ReturnGrades> maker, Class<? extends RuntimeException> want,
            Consumer<ReturnGrades> run) {
        ReturnGrades called = maker.get();
        Class<?> thrown = null;
        try {
            run.accept(called);
        } catch (RuntimeException e) {
            thrown = e.getClass();
        }
        if (thrown != want) {
            fault(call + " threw " + nameOf(thrown) + ", due is " + nameOf(want));
        } else if (want != null) {
            alike(call, called, maker.get());
        }
    }

    private static String nameOf(Class<?> thrown) {
        return thrown == null ? "nothing" : thrown.getSimpleName();
    }

    /** All that can be seen of two desks is the same; their states are undone for that, and their buffers cleared. */
    void alike(String call, ReturnGrades one, ReturnGrades other) {
        due(call + ": the saved states", one.count(13), other.count(13));
        for (int left = Math.min(one.count(13), other.count(13)); left >= 0; left--) {
            due(call + ": the digest with " + left + " saved states", one.digest(), other.digest());
            due(call + ": the workshop with " + left + " saved states", workshop(one), workshop(other));
            due(call + ": the claims with " + left + " saved states", waiting(one), waiting(other));
            if (left > 0) {
                one.undo();
                other.undo();
            }
        }
        due(call + ": the first error", one.firstError(), other.firstError());
        due(call + ": the length of the buffer", one.clearBuffer(), other.clearBuffer());
    }

    void fault(String text) {
        wrong++;
        System.out.println(text);
    }

    /** Ends the test: with exit code 1 if an answer was wrong. */
    void end() {
        System.out.println(wrong == 0 ? "all answers are as due" : wrong + " answers are not as due");
        if (wrong != 0) {
            System.exit(1);
        }
    }

    static void type(ReturnGrades desk, String text) {
        for (int i = 0; i < text.length(); i++) {
            desk.append(text.charAt(i));
        }
    }

    /** A desk on which the units of a text have come back. */
    static ReturnGrades deskWith(String text) {
        ReturnGrades desk = new ReturnGrades();
        add(desk, text);
        return desk;
    }

    /** The units of a text come back. */
    static void add(ReturnGrades desk, String text) {
        type(desk, text);
        desk.receiveAll();
    }

    /** The units in the workshop in their order, as digits of a text, with a point behind each. */
    static String workshop(ReturnGrades desk) {
        StringBuilder text = new StringBuilder();
        for (int place = 0; place < 20 && desk.inWorkshop(place) != NONE; place++) {
            text.append(desk.inWorkshop(place)).append('.');
        }
        return text.toString();
    }

    static String waiting(ReturnGrades desk) {
        StringBuilder text = new StringBuilder();
        for (int place = 0; place < 20 && desk.waiting(place) != NONE; place++) {
            text.append(desk.waiting(place)).append('.');
        }
        return text.toString();
    }

    void due(String call, String got, String want) {
        if (!got.equals(want)) {
            fault(call + " answered " + got + ", due is " + want);
        }
    }
}
