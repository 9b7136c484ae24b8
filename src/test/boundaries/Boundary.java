import java.util.ArrayList;
import java.util.List;

/** Takes tests, each under the promise and the sentence of the document that it is about. */
final class Boundary {
    interface Call {
        long on(AtTheDoor x);
    }

    interface Maker {
        AtTheDoor make();
    }

    static final int NONE = AtTheDoor.NONE, BAD = AtTheDoor.BAD, STATE = AtTheDoor.STATE, FULL = AtTheDoor.FULL;
    static final int NOTHING = -11, OUTSIDE = -12, UNLIKE = -13, BELOW_ZERO = -14;
    static final long NO = AtTheDoor.NO;
    static final int LOW = Integer.MIN_VALUE, HIGH = Integer.MAX_VALUE;

    /** Each test's promise and words, in the order in which they ran, and those of them that failed. */
    final List<String> ran = new ArrayList<>();
    final List<String> failed = new ArrayList<>();
    final StringBuilder said = new StringBuilder();

    private final String only;
    private String name = "";
    private int checks = 0;
    private int wrong = 0;

    Boundary(String only) {
        this.only = only;
    }

    /** Promise 0 stands for sentences that are about all of them. */
    static String nameOf(int promise, String words) {
        return "promise " + promise + ": " + words;
    }

    void test(int promise, String words, Runnable test) {
        name = nameOf(promise, words);
        if (!only.isEmpty() && !only.equals(name)) {
            return;
        }
        checks = 0;
        wrong = 0;
        try {
            test.run();
        } catch (RuntimeException | StackOverflowError e) {
            fail("it threw " + e);
        }
        if (checks == 0) {
            fail("nothing was checked");
        }
        ran.add(name);
        if (wrong > 0) {
            failed.add(name);
        }
    }

    private void fail(String what) {
        wrong++;
        said.append(name).append("\n    ").append(what).append('\n');
    }

    void due(String call, long got, long want) {
        checks++;
        if (got != want) {
            fail(call + " answered " + got + ", due is " + want);
        }
    }

    void due(String what, String got, String want) {
        checks++;
        if (!got.equals(want)) {
            fail(what + " is " + got + ", due is " + want);
        }
    }

    /** The call answers so, and an object on which it was never called tells the same of itself. */
    void refused(String call, Maker maker, Call refusedCall, long want) {
        AtTheDoor x = maker.make();
        due(call, refusedCall.on(x), want);
        due("what is told behind " + call, Houses.allOf(x), Houses.allOf(maker.make()));
    }
}
