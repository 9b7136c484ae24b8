/** Promises 19 to 25: cards that were left, what was heard, laws, callers that are drawn. */
final class CardsBoundaries {
    private static final int NONE = Boundary.NONE, BAD = Boundary.BAD, NOTHING = Boundary.NOTHING;
    private static final int LOW = Boundary.LOW, HIGH = Boundary.HIGH;
    private static final long NO = Boundary.NO;

    private final Boundary b;

    CardsBoundaries(Boundary b) {
        this.b = b;
    }

    void all() {
        cards();
        cardsRefusals();
        runs();
        judge();
        fits();
        laws();
        drawn();
        drawnOne();
        often();
    }

    private void cards(String what, AtTheDoor x, int due, int... callers) {
        for (int sort = 0; sort < 3; sort++) {
            Houses.row(x, 3, sort, callers);
            b.due(what + ", sort " + sort, x.cards(3), due);
        }
    }

    private void cards() {
        b.test(19, "CARDS: a SHEET tells CALLERS who came on this DAY, each in a later HOUR than the one ahead, "
                + "in which its comes is above 0: the least HOUR in which the last one can have come; NONE.", () -> {
            AtTheDoor x = Houses.coming("hour=5 or hour=9 and who=1", 0, 0);
            cards("the least hour", x, 5, 1);
            cards("a later one", x, 9, 0, 1);
            cards("no hour twice", x, NONE, 0, 0);
            cards("none is late enough", x, NONE, 1, 0);
            cards("more than hours", x, NONE, 1, 1, 1);
            cards("the first hour", Houses.coming("hour=0", 0), 0, 0);
            cards("the last hour", Houses.coming("hour=23", 0), 23, 0);
            cards("nothing behind it", Houses.coming("hour=23", 0), NONE, 0, 0);
            cards("none comes", Houses.coming("0", 0), NONE, 0);
            cards("comes is 1", Houses.coming("hour-20", 0), 21, 0);
            cards("the last of seven", Houses.coming("hour=who*3", 0, 0, 0, 0, 0, 0, 0), 18, 0, 6);
            x = Houses.coming("1", 0);
            cards("one each hour", x, 23, new int[24]);
            cards("one more", x, NONE, new int[25]);
            cards("as many as a sheet holds", x, NONE, new int[40]);
            b.due("the hour stays", x.count(2), 9);
            x = Houses.coming("day=6", 0);
            cards("not on this day", x, NONE, 0);
            x.set(1, 0, 6);
            cards("on this day", x, 0, 0);
            x = Houses.coming("1", 2);
            x.set(3, 0, 1);
            cards("one who goes at once can have come", x, 0, 0);
        });
    }

    private void cardsRefusals() {
        b.test(19, "CARDS. BAD: SHEET; -11;", () -> {
            for (int sheet : new int[] {-1, 4, LOW, HIGH}) {
                b.refused("cards(" + sheet + ")", Houses::furnished, x -> x.cards(sheet), BAD);
            }
            b.refused("cards(3), which is missing", Houses::furnished, x -> x.cards(3), NOTHING);
            for (int sheet = 0; sheet < 4; sheet++) {
                b.due("all are missing at first", new AtTheDoor().cards(sheet), NOTHING);
            }
        });
        b.test(19, "BAD: it tells none, or one who is no CALLER; NONE.", () -> {
            AtTheDoor x = Houses.coming("1", 0, 0);
            cards("none", x, BAD);
            cards("none of nobody", new AtTheDoor(), BAD);
            for (int who : new int[] {-1, 2, 7, 127, -128}) {
                cards("no caller first", x, BAD, who, 0);
                cards("no caller last", x, BAD, 0, 1, who);
            }
            Houses.row(x, 3, 2, 0, HIGH);
            b.due("no caller", x.cards(3), BAD);
            Houses.row(x, 3, 2, LOW);
            b.due("no caller", x.cards(3), BAD);
            x = Houses.coming("0", 0);
            cards("nobody can have come, and no caller", x, BAD, 0, 1);
            cards("nobody can have come", x, NONE, 0);
        });
    }

    private void runs() {
        b.test(20, "RUNS: CALLERS (bits) whose WAITS is 0.", () -> {
            AtTheDoor x = new AtTheDoor();
            for (int kind = 0; kind < 6; kind++) {
                x.caller(kind, 0);
            }
            b.due("one of each kind", x.runs(), 16);
            x.set(0, 0, 12);
            b.due("at 12", x.runs(), 16);
            x.set(4, 0, 1);
            b.due("one who goes at once", x.runs(), 16);
        });
        b.test(20, "RUNS.", () -> {
            b.due("nobody", new AtTheDoor().runs(), 0);
            b.due("none", Houses.coming("1", 0, 1, 2, 3, 5).runs(), 0);
            b.due("all seven", Houses.coming("1", 4, 4, 4, 4, 4, 4, 4).runs(), 127);
            b.due("the first and the last", Houses.coming("1", 4, 0, 0, 0, 0, 0, 4).runs(), 65);
        });
    }

    private void judged(String what, AtTheDoor x, int due, int... signs) {
        for (int sort = 0; sort < 3; sort++) {
            Houses.row(x, 3, sort, signs);
            b.due(what + ", sort " + sort, x.judge(3), due);
        }
    }

    private void judge() {
        b.test(21, "JUDGED: the first place (from 0) such that, were just the SIGNS up to it HEARD, ALL would be 0; NONE.", () -> {
            for (int most = 0; most <= 6; most++) {
                AtTheDoor x = Houses.coming(most + "-signs", 0);
                judged("six signs, none comes behind " + most, x, most == 0 ? 0 : most - 1, 0, 1, 2, 3, 0, 1);
            }
            judged("six signs, one comes", Houses.coming("7-signs", 0), NONE, 0, 1, 2, 3, 0, 1);
            judged("no signs, none comes", Houses.coming("0", 0), NONE);
            judged("no signs", Houses.coming("1", 0), NONE);
            judged("none comes at just two", Houses.coming("not signs=2", 0), 1, 3, 3, 3);
            judged("nobody", new AtTheDoor(), 0, 3);
            AtTheDoor x = Houses.hearing(Houses.coming("2-signs", 0), 1, 1);
            judged("what is heard does not count", x, NONE, 0);
            judged("what is heard does not count", x, 1, 0, 0);
            b.due("it stays", Houses.heard(x), "11....");
        });
        b.test(21, "JUDGED. BAD: SHEET; -11;", () -> {
            for (int sheet : new int[] {-1, 4, LOW, HIGH}) {
                b.refused("judge(" + sheet + ")", Houses::furnished, x -> x.judge(sheet), BAD);
            }
            b.refused("judge(3), which is missing", Houses::furnished, x -> x.judge(3), NOTHING);
        });
        b.test(21, "BAD: above 6, any that is no SIGN; NONE.", () -> {
            AtTheDoor x = Houses.coming("1", 0);
            judged("six", x, NONE, 0, 1, 2, 3, 0, 1);
            judged("seven", x, BAD, 0, 1, 2, 3, 0, 1, 2);
            judged("forty", x, BAD, new int[40]);
            for (int sign : new int[] {-1, 4, 127, -128}) {
                judged("no sign first", x, BAD, sign, 0);
                judged("no sign last", x, BAD, 0, 0, 0, 0, 0, sign);
            }
            judged("no sign behind the place", Houses.coming("0", 0), BAD, 0, 4);
        });
    }

    private void fit(String what, AtTheDoor x, int due, int... signs) {
        for (int sort = 0; sort < 3; sort++) {
            Houses.row(x, 3, sort, signs);
            b.due(what + ", sort " + sort, x.fits(3), due);
        }
    }

    private void fits() {
        b.test(22, "A SHEET tells SIGNS (6 at most), as if just these were HEARD:", () -> {
            AtTheDoor x = Houses.hearing(Houses.coming("signs=6", 0), 0, 0, 0);
            fit("three", x, 0, 0, 1, 2);
            fit("six", x, 1, 0, 1, 2, 3, 0, 1);
            fit("seven", x, BAD, 0, 1, 2, 3, 0, 1, 2);
            fit("none", Houses.hearing(Houses.coming("signs=0", 0), 1), 1);
            b.due("what is heard stays", Houses.heard(x), "000...");
        });
        b.test(22, "FITS: CALLERS (bits) whose WEIGHT would be above 0.", () -> {
            AtTheDoor x = Houses.coming("who-3+signs", 0, 2, 0, 0, 0, 0, 2);
            fit("no signs", x, 16 + 32 + 64);
            fit("one sign", x, 8 + 16 + 32 + 64, 3);
            fit("six signs", x, 127, 2, 2, 2, 2, 2, 2);
            x.set(3, 0, 1);
            fit("with a dog", x, 127 - 2 - 64, 2, 2, 2, 2, 2, 2);
            fit("nobody", new AtTheDoor(), 0, 0);
            fit("none comes", Houses.coming("0", 0), 0, 0);
        });
        b.test(22, "FITS. BAD: SHEET; -11;", () -> {
            for (int sheet : new int[] {-1, 4, LOW, HIGH}) {
                b.refused("fits(" + sheet + ")", Houses::furnished, x -> x.fits(sheet), BAD);
            }
            b.refused("fits(3), which is missing", Houses::furnished, x -> x.fits(3), NOTHING);
        });
        b.test(22, "BAD: above 6, any that is no SIGN.", () -> {
            AtTheDoor x = Houses.coming("1", 0);
            fit("six", x, 1, 0, 1, 2, 3, 0, 1);
            fit("seven", x, BAD, 0, 1, 2, 3, 0, 1, 2);
            fit("forty", x, BAD, new int[40]);
            for (int sign : new int[] {-1, 4, 127, -128}) {
                fit("no sign first", x, BAD, sign, 0);
                fit("no sign last", x, BAD, 0, 0, 0, 0, 0, sign);
            }
        });
    }

    private void laws() {
        b.test(23, "TEXTS (bits), were they THE RULE, by which WHO would be a told one (NONE: nobody).", () -> {
            AtTheDoor x = new AtTheDoor();
            b.due("nobody at all", x.laws(NONE), 1);
            for (String comes : new String[] {"who=6", "0", "(who=0)*hour", "who=6", "who"}) {
                Houses.text(x, "comes " + comes + ";worth 1;costs 0;");
            }
            b.due("nobody, by all six", x.laws(NONE), 63);
            for (int i = 0; i < 7; i++) {
                x.caller(0, 0);
            }
            x.force(2);
            b.due("the first", x.laws(0), 1 + 8);
            b.due("the last", x.laws(6), 2 + 16 + 32);
            b.due("another", x.laws(3), 0);
            b.due("nobody", x.laws(NONE), 4);
            b.due("the rule stays", x.count(9), 2);
            // A quiet one and a caller, alike but for the knock that is heard, and the dog.
            x = Houses.coming("hour=20", 2, 0);
            x.set(0, 0, 20);
            x.hear(2);
            b.due("as it is now", x.laws(0), 3);
            x.set(3, 0, 1);
            b.due("as it is with a dog", x.laws(1), 3);
        });
        b.test(23, "BAD.", () -> {
            for (int who : new int[] {-2, 2, 7, LOW, HIGH}) {
                b.refused("laws(" + who + ")", Houses::furnished, x -> x.laws(who), BAD);
            }
            b.due("laws(0) of nobody", new AtTheDoor().laws(0), BAD);
            b.due("laws(7) of seven", Houses.full().laws(7), BAD);
        });
    }

    /** Each draw's (z >>> 8) % all, reckoned in longs so that nothing wraps here. */
    private static long[] marks(int seed, int n, long all) {
        long[] marks = new long[n];
        long z = seed & 0xffffffffL;
        for (int i = 0; i < n; i++) {
            z = (z * 1103515245L + 12345L) & 0xffffffffL;
            marks[i] = (z / 256) % all;
        }
        return marks;
    }

    private static final int[] SEEDS = {0, 1, -1, 12345, LOW, HIGH, -77};

    private void drawn() {
        b.test(24, "DRAWN by a SEED, n times (1 .. 30), no SIGNS being HEARD: "
                + "z = z * 1103515245 + 12345 (an int; SEED at first):", () -> {
            for (int seed : SEEDS) {
                AtTheDoor x = Houses.ruled("comes 1-signs;worth 1+who+50*signs;costs 0;", 0, 0, 0, 0, 0, 0, 0);
                x.hear(1);
                long sum = 0;
                for (int n = 1; n <= 30; n++) {
                    sum += 1 + marks(seed, n, 7)[n - 1];
                    b.due("drawn(" + seed + ", " + n + ")", x.drawn(seed, n), sum);
                }
                b.due("what is heard stays", Houses.heard(x), "1.....");
            }
        });
        b.test(24, "DRAWN. NO: n.", () -> {
            for (int n : new int[] {-1, 0, 31, LOW, HIGH}) {
                b.refused("drawn(5, " + n + ")", Houses::furnished, x -> x.drawn(5, n), NO);
            }
            b.due("once", Houses.coming("1", 0).drawn(5, 1), 1);
            b.due("thirty times", Houses.coming("1", 0).drawn(5, 30), 30);
        });
    }

    private void drawnOne() {
        b.test(24, "the CALLER is the first such that WEIGHTS of all up to it, together, are above (z >>> 8) % ALL "
                + "(nobody, if ALL is 0): worth of all who are drawn, together.", () -> {
            for (int seed : SEEDS) {
                // Weights 0, 1, 2, 3: marks 0; 1, 2; 3, 4, 5 are callers 1, 2, 3, worth -99, 0, 99.
                AtTheDoor x = Houses.ruled("comes who;worth (who-2)*100;costs 0;", 0, 0, 0, 0);
                long sum = 0;
                for (long mark : marks(seed, 30, 6)) {
                    sum += mark == 0 ? -99 : mark < 3 ? 0 : 99;
                }
                b.due("drawn(" + seed + ", 30)", x.drawn(seed, 30), sum);
                b.due("nobody at all", new AtTheDoor().drawn(seed, 30), 0);
                b.due("none comes", Houses.coming("0", 0, 0).drawn(seed, 30), 0);
                b.due("all is 1", Houses.ruled("comes who=1;worth who*7;costs 0;", 0, 0, 0).drawn(seed, 30), 210);
                x = Houses.ruled("comes 1;worth 1+who;costs 0;", 2, 0);
                x.set(3, 0, 1);
                b.due("the first goes at once", x.drawn(seed, 30), 60);
                b.due("the least worth", Houses.ruled("comes 1;worth -99;costs 0;", 0).drawn(seed, 30), -2970);
            }
        });
    }

    private void times(AtTheDoor x, int seed, int n, int who, long above, long below) {
        b.due("often(" + seed + ", " + n + ", " + who + ", 0)", x.often(seed, n, who, 0), above);
        b.due("often(" + seed + ", " + n + ", " + who + ", 1)", x.often(seed, n, who, 1), below);
    }

    private static long common(long a, long c) {
        return c == 0 ? a : common(c, a % c);
    }

    private void often() {
        b.test(25, "HOW OFTEN: how many of the n are a told one, by n.", () -> {
            for (int seed : SEEDS) {
                AtTheDoor x = Houses.coming("1-signs", 0, 0, 0);
                x.hear(2);
                for (int n = 1; n <= 30; n++) {
                    for (int who = 0; who < 3; who++) {
                        long times = 0;
                        for (long mark : marks(seed, n, 3)) {
                            times += mark == who ? 1 : 0;
                        }
                        long common = common(times, n);
                        times(x, seed, n, who, times / common, n / common);
                    }
                }
            }
        });
        b.test(25, "HOW OFTEN: part 0 above, 1 below the line, in lowest terms.", () -> {
            times(Houses.coming("1", 0), 5, 1, 0, 1, 1);
            times(Houses.coming("1", 0), 5, 30, 0, 1, 1);
            times(Houses.coming("who", 0, 0), 5, 30, 0, 0, 1);
            times(Houses.coming("0", 0), 5, 30, 0, 0, 1);
            times(Houses.coming("0", 0), 5, 1, 0, 0, 1);
            // By seed 0 one of two is drawn so often that the count and 30 have a divisor in common.
            long ones = 0;
            for (long mark : marks(0, 30, 2)) {
                ones += mark;
            }
            long common = common(ones, 30);
            b.due("they have one", common > 1 ? 1 : 0, 1);
            times(Houses.coming("1", 0, 0), 0, 30, 1, ones / common, 30 / common);
        });
        b.test(25, "NO: n, no such CALLER, part.", () -> {
            for (int n : new int[] {-1, 0, 31, LOW, HIGH}) {
                b.refused("often(5, " + n + ", 0, 0)", Houses::furnished, x -> x.often(5, n, 0, 0), NO);
            }
            for (int who : new int[] {NONE, -2, 2, 7, LOW, HIGH}) {
                b.refused("often(5, 1, " + who + ", 1)", Houses::furnished, x -> x.often(5, 1, who, 1), NO);
            }
            for (int part : new int[] {-1, 2, LOW, HIGH}) {
                b.refused("often(5, 1, 0, " + part + ")", Houses::furnished, x -> x.often(5, 1, 0, part), NO);
            }
        });
    }
}
