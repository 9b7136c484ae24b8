/** Doors to try the boundaries on, and how to see all of one. */
final class Houses {
    private Houses() {
    }

    static int text(AtTheDoor x, String text) {
        for (int i = 0; i < text.length(); i++) {
            x.feed(text.charAt(i));
        }
        return x.text();
    }

    /** A door whose rule is the told text, with callers of the told kinds, their numbers 0. */
    static AtTheDoor ruled(String text, int... kinds) {
        AtTheDoor x = new AtTheDoor();
        int number = text(x, text);
        if (number != 1 || x.force(1) != 0) {
            throw new IllegalStateException("'" + text + "' answered " + number);
        }
        for (int kind : kinds) {
            x.caller(kind, 0);
        }
        return x;
    }

    /** The same, by what comes alone. */
    static AtTheDoor coming(String expression, int... kinds) {
        return ruled("comes " + expression + ";worth 1;costs 0;", kinds);
    }

    static AtTheDoor hearing(AtTheDoor x, int... signs) {
        for (int sign : signs) {
            x.hear(sign);
        }
        return x;
    }

    static void row(AtTheDoor x, int sheet, int sort, int... cells) {
        x.sheet(sheet, sort, cells.length);
        for (int i = 0; i < cells.length; i++) {
            x.cell(sheet, i, cells[i]);
        }
    }

    /** Nothing in it is as at first: two callers, signs, a rule, an image, a begun tape, a sheet of each sort. */
    static AtTheDoor furnished() {
        AtTheDoor x = new AtTheDoor();
        x.caller(3, 4);
        x.set(0, 0, 7);
        x.set(4, 0, 1);
        x.hear(1);
        x.image();
        x.caller(2, 3);
        x.set(0, 0, 20);
        x.set(1, 0, 5);
        x.set(2, 0, 0);
        x.set(3, 0, 1);
        x.set(4, 0, 0);
        x.hush();
        hearing(x, 2, 3);
        text(x, "comes 7+who;worth sort+day;costs home+2;");
        x.force(1);
        for (char c : "comes 1;worth".toCharArray()) {
            x.feed(c);
        }
        row(x, 0, 0, 1, 2);
        row(x, 1, 1, 3);
        row(x, 2, 2, 0, 1, 2);
        return x;
    }

    /** Seven callers, six signs, six texts, 160 bytes. */
    static AtTheDoor full() {
        AtTheDoor x = new AtTheDoor();
        for (int i = 0; i < 7; i++) {
            x.caller(i % 6, i + 1);
        }
        for (int i = 1; i < 6; i++) {
            text(x, "comes " + i + ";worth 1;costs 1;");
        }
        hearing(x, 0, 1, 2, 3, 1, 0);
        for (int i = 0; i < 160; i++) {
            x.feed(i < 24 ? "comes 8;worth 8;costs 8;".charAt(i) : 32);
        }
        return x;
    }

    static String heard(AtTheDoor x) {
        StringBuilder b = new StringBuilder();
        for (int i = 10; i < 16; i++) {
            b.append(x.count(i) == -1 ? "." : x.count(i));
        }
        return b.toString();
    }

    static String counts(AtTheDoor x) {
        StringBuilder b = new StringBuilder();
        for (int what = 0; what < 16; what++) {
            b.append(x.count(what)).append(' ');
        }
        return b.toString();
    }

    private static String callers(AtTheDoor x) {
        StringBuilder b = new StringBuilder();
        for (int who = -1; who < 8; who++) {
            b.append(x.told(who, 0)).append('/').append(x.told(who, 1)).append('/').append(x.weight(who)).append(' ');
        }
        return b.append(x.gain(0)).append(' ').append(x.gain(1)).append('\n').toString();
    }

    /** A sheet's sort, and its cells as far as they are signs; what is heard is lost. */
    static String cells(AtTheDoor x, int sheet) {
        StringBuilder b = new StringBuilder();
        for (int sort = 0; sort < 3; sort++) {
            b.append(x.hears(sheet, sort, 0, 0)).append(' ');
            for (int i = 0; i < 41; i++) {
                x.hush();
                int times = x.hears(sheet, sort, i, 1);
                if (times < 0) {
                    break;
                }
                b.append(times == 0 ? "x" : x.count(10));
            }
        }
        return b.toString();
    }

    /** All that calls can tell of it; it is not as it was then. */
    static String allOf(AtTheDoor x) {
        StringBuilder b = new StringBuilder(counts(x)).append(callers(x));
        int rule = x.count(9);
        for (int t = 0; t < x.count(7); t++) {
            x.force(t);
            b.append(callers(x));
        }
        x.force(rule);
        int text = x.text();
        b.append(text).append(' ').append(x.count(8)).append('\n');
        if (x.force(text) >= 0) {
            b.append(callers(x));
        }
        x.force(rule);
        b.append(x.back()).append(' ').append(counts(x)).append(callers(x));
        for (int sheet = 0; sheet < 4; sheet++) {
            b.append(cells(x, sheet)).append('\n');
        }
        return b.toString();
    }
}
