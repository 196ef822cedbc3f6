import java.util.NoSuchElementException;
import java.util.function.Supplier;

/** Compares answers with those that are due, and counts the wrong ones. */
final class Check {
    interface Call {
        void make();
    }

    static final Class<? extends RuntimeException> REFUSED = UnsupportedOperationException.class;
    static final Class<? extends RuntimeException> NO_INDEX = IndexOutOfBoundsException.class;
    static final Class<? extends RuntimeException> NO_ARGUMENT = IllegalArgumentException.class;
    static final Class<? extends RuntimeException> NO_ELEMENT = NoSuchElementException.class;
    static final Class<? extends RuntimeException> NO_STATE = IllegalStateException.class;
    static final Class<? extends RuntimeException> NO_NUMBER = ArithmeticException.class;

    private static int wrong = 0;

    private Check() {
    }

    /** What a call answers, or the exception's name behind "throws.". */
    static String answer(Supplier<Object> call) {
        try {
            return call.get().toString();
        } catch (RuntimeException e) {
            return "throws." + e.getClass().getName();
        }
    }

    static void due(String what, Object got, Object want) {
        if (!got.equals(want)) {
            fail(what + " answered " + got + ", due is " + want);
        }
    }

    /** The class must be just the one named: one that the machine throws is often below it. */
    static void thrown(String what, Class<? extends RuntimeException> want, Call call) {
        RuntimeException got = null;
        try {
            call.make();
        } catch (RuntimeException e) {
            got = e;
        }
        if (got == null || got.getClass() != want) {
            fail(what + " threw " + got + ", due is " + want.getName());
        }
    }

    /** A call that is refused for a reason of its own, with nothing behind it. */
    static void refused(String what, NetScript x, int reason, int detail, Call call) {
        thrown(what, REFUSED, call);
        due("reason of " + what, x.reason(false, false), reason);
        due("detail of " + what, x.reason(false, true), detail);
        thrown("reason behind that of " + what, NO_ELEMENT, () -> x.reason(true, false));
        thrown("detail behind that of " + what, NO_ELEMENT, () -> x.reason(true, true));
    }

    /** Both ways of counting the chapters of a net. */
    static void chapters(NetScript x, int net, int want) {
        due("chapters", x.chapters(net), want);
        due("chaptersAgain", x.chaptersAgain(net), want);
    }

    /** Both ways of telling the least twine for a note. */
    static void least(NetScript x, int note, int want) {
        due("least", x.least(note), want);
        due("leastAgain", x.leastAgain(note), want);
    }

    /** Both ends of the best torn string of a net. */
    static void best(NetScript x, int net, int lesser, int greater) {
        due("lesser place of the best", x.bestMend(net, false), lesser);
        due("greater place of the best", x.bestMend(net, true), greater);
    }

    static void feed(NetScript x, String text) {
        for (int i = 0; i < text.length(); i++) {
            due("feed of " + text + " at " + i, x.feed(text.charAt(i)), i + 1);
        }
    }

    static void runs(NetScript x, String text, int orders) {
        feed(x, text);
        due("run of " + text, x.run(), orders);
        due("tape behind " + text, x.account(11), 0);
    }

    static void fault(NetScript x, String text, int position) {
        feed(x, text);
        thrown("run of " + text, NO_ARGUMENT, x::run);
        due("fault of " + text, x.faultPosition(), position);
        due("tape behind " + text, x.account(11), 0);
    }

    static void orderRefused(NetScript x, String text, int order, int reason, int detail) {
        feed(x, text);
        thrown("run of " + text, REFUSED, x::run);
        due("reason of " + text, x.reason(false, false), 9);
        due("detail of " + text, x.reason(false, true), order);
        due("reason behind " + text, x.reason(true, false), reason);
        due("detail behind " + text, x.reason(true, true), detail);
        due("tape behind " + text, x.account(11), 0);
    }

    /** The whole line, of which a call told the length. */
    static void written(String what, NetScript x, int length, String want) {
        StringBuilder line = new StringBuilder();
        for (int i = 0; i < length; i++) {
            line.append(x.character(i));
        }
        due(what, line.toString(), want);
        thrown("character behind " + what, NO_INDEX, () -> x.character(length));
    }

    static void fail(String what) {
        wrong++;
        if (wrong <= 20) {
            System.out.println(what);
        }
    }

    static void end() {
        if (wrong != 0) {
            System.out.println(wrong + " answers are not as due");
            System.exit(1);
        }
    }
}
