/** Promises 13 to 18: whether to open, and what a peephole, a sign more, a dog, a notice, being at home is worth. */
final class OpenBoundaries {
    private static final int NONE = Boundary.NONE, LOW = Boundary.LOW, HIGH = Boundary.HIGH;
    private static final long NO = Boundary.NO;

    private final Boundary b;

    OpenBoundaries(Boundary b) {
        this.b = b;
    }

    void all() {
        gain();
        open();
        peep();
        listen();
        peepRefusals();
        tells();
        guard();
        home();
    }

    /** A worth by who, each coming once. */
    private static AtTheDoor worth(String expression, int... kinds) {
        return Houses.ruled("comes 1;worth " + expression + ";costs 0;", kinds);
    }

    private void gain() {
        b.test(13, "GAIN of a minute t (0 .. 20): WEIGHT times worth of each CALLER that WAITS t or more, together, "
                + "less ALL times costs times t.", () -> {
            AtTheDoor x = Houses.ruled("comes 2;worth 10-who*15;costs 1;", 0, 2);
            long[] due = {10, 6, 2, 8, -16};
            for (int t = 0; t < 5; t++) {
                b.due("gain(" + t + ")", x.gain(t), due[t]);
            }
            b.due("gain(20)", x.gain(20), -80);
            x = worth("9", 3);
            x.set(5, 0, 9);
            b.due("it waits 12", x.gain(12), 9);
            b.due("it waits 12", x.gain(13), 0);
            x.set(0, 0, 12);
            b.due("it waits 6", x.gain(6), 9);
            b.due("it waits 6", x.gain(7), 0);
            x = worth("9", 4);
            b.due("it waits 0", x.gain(0), 9);
            b.due("it waits 0", x.gain(1), 0);
            b.due("nobody", new AtTheDoor().gain(20), 0);
            x = Houses.hearing(Houses.ruled("comes 999;worth 99;costs 99;", 2, 2, 2, 2, 2, 2, 2), 2, 2, 2, 2, 2, 2);
            b.due("the most", x.gain(0), 7 * 2982998016L * 99);
            b.due("the least", x.gain(20), -7 * 2982998016L * 99 * 20);
        });
        b.test(13, "GAIN of a minute.", () -> {
            b.due("the first minute", Houses.coming("3", 0).gain(0), 3);
            b.due("the last minute", Houses.ruled("comes 3;worth 1;costs 1;", 0).gain(20), -60);
        });
        b.test(13, "NO: no such one.", () -> {
            for (int minute : new int[] {-1, 21, LOW, HIGH}) {
                b.refused("gain(" + minute + ")", Houses::furnished, x -> x.gain(minute), NO);
            }
            b.due("gain(20) is one", new AtTheDoor().gain(20), 0);
            b.due("gain(0) is one", new AtTheDoor().gain(0), 0);
        });
    }

    private void open() {
        b.test(14, "OPEN: the minute of most GAIN, of like ones the first; NONE, if that GAIN is not above 0.", () -> {
            b.due("the first of like ones", worth("5", 0).open(), 0);
            b.due("once another is gone", worth("10-who*15", 0, 2).open(), 3);
            b.due("once another is gone, and the costs", Houses.ruled("comes 2;worth 10-who*15;costs 1;", 0, 2).open(), 0);
            AtTheDoor x = worth("who*20-10", 0, 3);
            x.set(5, 1, 9);
            b.due("of 4 .. 12, alike, the first", x.open(), 4);
            b.due("a gain of 1", worth("1", 0).open(), 0);
            b.due("a gain of 0", worth("0", 0).open(), NONE);
            b.due("a gain of -1", worth("-1", 0).open(), NONE);
            b.due("all are below 0 but those behind it, which are 0", worth("-1", 4).open(), NONE);
            b.due("nobody", new AtTheDoor().open(), NONE);
        });
        b.test(14, "OPEN. NONE.", () -> {
            AtTheDoor x = Houses.furnished();
            b.due("open()", x.open(), 0);
            b.due("nothing changes", Houses.allOf(x), Houses.allOf(Houses.furnished()));
            b.due("open() with nobody", new AtTheDoor().open(), -1);
        });
    }

    private void peeps(String what, AtTheDoor x, int which, long above, long below) {
        b.due(what + ", above the line", x.peep(which, 0), above);
        b.due(what + ", below the line", x.peep(which, 1), below);
    }

    private void peep() {
        b.test(15, "PEEP (what it would be worth to know who it is): A less B, by ALL: "
                + "A is WEIGHT times worth of all whose worth is above 0, together; "
                + "B is WEIGHT times worth of all, together (0, if that is below 0).", () -> {
            peeps("B is above 0", worth("3-who*4", 0, 0), 0, 1, 2);
            peeps("B is 1", worth("3-who*5", 0, 0), 0, 1, 1);
            peeps("B is 0", worth("3-who*6", 0, 0), 0, 3, 2);
            peeps("B is below 0", worth("3-who*8", 0, 0), 0, 3, 2);
            peeps("none is above 0", worth("-3", 0, 0), 0, 0, 1);
            peeps("all are above 0", worth("3", 0, 0), 0, 0, 1);
            peeps("all are 0", worth("0", 0, 0), 0, 0, 1);
            AtTheDoor x = worth("3-who*4", 0, 2);
            x.set(3, 0, 1);
            peeps("who goes at once counts in none", x, 0, 0, 1);
            peeps("seven", worth("3-who*2", 0, 0, 0, 0, 0, 0, 0), 0, 4, 7);
            x = worth("3-who*6", 0);
            x.image();
            x.caller(0, 0);
            peeps("two", x, 0, 3, 2);
            x.back();
            peeps("one who is gone counts no more", x, 0, 0, 1);
        });
        b.test(15, "PEEP (what 0), LISTEN (1): part 0 above, 1 below the line, in lowest terms.", () -> {
            AtTheDoor x = worth("3-who*6", 0, 1);
            peeps("peep, 3 by 2", x, 0, 3, 2);
            peeps("listen, 12 by 32", x, 1, 3, 8);
            x = Houses.hearing(Houses.ruled("comes 999;worth 99-who*198;costs 0;", 2, 2), 2, 2, 2, 2, 2);
            peeps("far above an int", x, 0, 99, 2);
            peeps("far above an int", x, 1, 0, 1);
        });
    }

    private void listen() {
        b.test(15, "LISTEN (what one SIGN more would be worth): for each SIGN g S is WEIGHT times SOUNDS "
                + "(of g as the next number) times worth, of all CALLERS, together; A less B by C: "
                + "A is the sum of those S that are above 0, B the sum of all four S (0, if it is below 0), "
                + "C the sum of WEIGHT times SOUNDS of all four SIGNS, of all CALLERS.", () -> {
            // S of short 5 * 3 - 9 * 3, of the others 5 * 3 - 3: A 36, B 24, C 20 + 12.
            peeps("B is above 0", worth("3-who*6", 0, 1), 1, 3, 8);
            // S of knock 2 * 12 - 5 * 3, of the others 2 * 2 - 5 * 3: A 9, B 9 - 33, C 20 + 18.
            peeps("B is below 0", worth("who*5-3", 0, 2), 1, 9, 38);
            AtTheDoor x = worth("who*6-4", 2, 4);
            // As number 0 both sound alike: S is below 0 for all.
            peeps("as number 0", x, 1, 0, 1);
            x.hear(1);
            // As number 1: nothing 2 * (15 * 2 - 2 * 4), the others -8, -8, -48: A 44, B 0, C 36 + 62.
            peeps("as number 1", x, 1, 22, 49);
            peeps("as it is now, not with one more heard",
                    Houses.ruled("comes 1-signs;worth (3-who*6)*(signs=0);costs 0;", 0, 1), 1, 3, 8);
            peeps("none is worth anything", worth("0", 0, 1), 1, 0, 1);
            // S of knock 12 * 9 - 6 * 5, of the others 2 * 9 - 6 * 5: A 78, B 42, C 6 * 20 + 18.
            peeps("seven", worth("10*(who=6)-1", 0, 0, 0, 0, 0, 0, 2), 1, 6, 23);
        });
    }

    private void peepRefusals() {
        b.test(15, "NO: none such;", () -> {
            for (int what : new int[] {-1, 2, LOW, HIGH}) {
                b.refused("peep(" + what + ", 0)", Houses::furnished, x -> x.peep(what, 0), NO);
            }
            for (int part : new int[] {-1, 2, LOW, HIGH}) {
                b.refused("peep(0, " + part + ")", Houses::furnished, x -> x.peep(0, part), NO);
                b.refused("peep(1, " + part + ")", Houses::furnished, x -> x.peep(1, part), NO);
            }
        });
        b.test(15, "what is below the line is 0;", () -> {
            peeps("nobody", new AtTheDoor(), 0, NO, NO);
            peeps("nobody", new AtTheDoor(), 1, NO, NO);
            peeps("none comes", Houses.coming("0", 0), 0, NO, NO);
            peeps("none comes", Houses.coming("0", 0), 1, NO, NO);
            AtTheDoor x = Houses.coming("1", 2);
            x.set(3, 0, 1);
            peeps("none stays", x, 0, NO, NO);
            peeps("none stays", x, 1, NO, NO);
        });
        b.test(15, "LISTEN with 6 HEARD.", () -> {
            AtTheDoor x = Houses.hearing(worth("3-who*6", 0, 0), 0, 0, 0, 0, 0);
            peeps("listen with five", x, 1, 0, 1);
            x.hear(0);
            peeps("listen with six", x, 1, NO, NO);
            peeps("peep with six", x, 0, 3, 2);
        });
    }

    private void tells() {
        b.test(16, "TELLS: the first SIGN such that, were it HEARD next, WHO would be another CALLER than now; NONE.", () -> {
            b.due("a knock", Houses.coming("5", 0, 2).tells(), 2);
            b.due("nothing, as number 1", Houses.hearing(Houses.coming("1", 0, 4), 0).tells(), 3);
            AtTheDoor x = Houses.hearing(Houses.coming("10+16*who", 0, 3), 1);
            x.set(5, 1, 9);
            b.due("a long, as number 1", x.tells(), 1);
            b.due("the first of all four", Houses.coming("1+9*who*signs", 0, 0).tells(), 0);
            b.due("of like ones the first would be", Houses.coming("12+18*who", 0, 2).tells(), 0);
            b.due("none", Houses.coming("1", 0, 0).tells(), NONE);
            b.due("one alone", Houses.coming("1", 0).tells(), NONE);
            b.due("nobody is no other caller", Houses.coming("1-signs", 0, 2).tells(), NONE);
            x = Houses.hearing(Houses.coming("1+9*who*(signs=6)", 0, 0), 3, 3, 3, 3);
            b.due("the fifth", x.tells(), NONE);
            x.hear(3);
            b.due("the sixth", x.tells(), 0);
        });
        b.test(16, "TELLS. NONE (also with 6 HEARD, also if nobody is WHO).", () -> {
            AtTheDoor x = Houses.hearing(Houses.coming("1", 0, 2), 2, 2, 2, 0, 0);
            b.due("with five", x.tells(), 0);
            x.hear(0);
            b.due("with six", x.tells(), NONE);
            b.due("with six", Houses.hearing(Houses.coming("1+9*who*(6<signs)", 0, 0), 0, 0, 0, 0, 0, 0).tells(), NONE);
            b.due("nobody is who, though one would be", Houses.coming("signs", 0, 2).tells(), NONE);
            b.due("nobody at all", new AtTheDoor().tells(), NONE);
            x = Houses.furnished();
            b.due("tells()", x.tells(), NONE);
            b.due("nothing changes", Houses.allOf(x), Houses.allOf(Houses.furnished()));
        });
    }

    private void guard() {
        b.test(17, "GUARD: GAIN of minute 0, were there a DOG (what 0), a NOTICE (1), less GAIN of minute 0, "
                + "were there none, all else as it is.", () -> {
            AtTheDoor x = Houses.ruled("comes 2;worth 1+who;costs 5;", 0, 2, 4, 5);
            b.due("a dog", x.guard(0), -2 * (2 + 3));
            b.due("a notice", x.guard(1), -2 * 3);
            x.set(4, 0, 1);
            b.due("a dog, by a notice", x.guard(0), -2 * (2 + 4));
            b.due("a notice that is there", x.guard(1), -2 * 3);
            x.set(3, 0, 1);
            b.due("a dog that is there", x.guard(0), -2 * (2 + 4));
            b.due("a notice, by a dog", x.guard(1), -2 * 4);
            b.due("the dog stays", x.count(5), 1);
            b.due("the notice stays", x.count(6), 1);
            x.set(3, 0, 0);
            x.set(4, 0, 0);
            x.hear(2);
            b.due("by what is heard", x.guard(1), -2 * 12 * 3);
            b.due("no dog comes", x.count(5), 0);
            b.due("no notice comes", x.count(6), 0);
            b.due("nobody", new AtTheDoor().guard(0), 0);
            b.due("who is worth less than nothing", worth("-3", 2).guard(0), 3);
        });
        b.test(17, "GUARD. NO: what.", () -> {
            for (int what : new int[] {-1, 2, LOW, HIGH}) {
                b.refused("guard(" + what + ")", Houses::furnished, x -> x.guard(what), NO);
            }
        });
    }

    private void homes(String what, AtTheDoor x, int n, long first, long much) {
        b.due(what + ", home(" + n + ", 0)", x.home(n, 0), first);
        b.due(what + ", home(" + n + ", 1)", x.home(n, 1), much);
    }

    private void home() {
        b.test(18, "HOURS (n: 1 .. 24): of n HOURS in a row (none behind 23) those in which comes times worth of all who STAY, "
                + "told for that HOUR, all together, is most; of like ones the first.", () -> {
            AtTheDoor x = Houses.coming("5*(hour=23)+2*(hour=0)", 0);
            homes("the last hour", x, 1, 23, 5);
            homes("none behind 23", x, 2, 22, 5);
            homes("23 hours", x, 23, 1, 5);
            homes("all hours", x, 24, 0, 7);
            homes("the first hour", Houses.coming("hour=0", 0), 1, 0, 1);
            x = Houses.coming("hour=5 or hour=6", 0);
            homes("of like ones the first", x, 1, 5, 1);
            homes("two in a row", x, 2, 5, 2);
            homes("of like ones the first", x, 3, 4, 2);
            homes("all are alike", Houses.coming("1", 0), 23, 0, 23);
            homes("all are below 0", worth("hour-30", 0), 2, 22, -15);
            homes("nobody", new AtTheDoor(), 24, 0, 0);
            homes("the most", Houses.ruled("comes 999;worth 99;costs 0;", 0, 0, 0, 0, 0, 0, 0), 24, 0, 24L * 7 * 999 * 99);
            x = Houses.hearing(Houses.ruled("comes 1;worth 1+signs;costs 0;", 0, 2), 2);
            homes("what is heard does not weigh", x, 3, 0, 12);
            x.set(3, 0, 1);
            homes("who does not stay", x, 3, 0, 6);
            b.due("the hour stays", x.count(2), 9);
        });
        b.test(18, "HOURS: the first of them (what 0), how much that is (1).", () -> {
            homes("at 20 .. 22", Houses.coming("9*(19<hour)*(hour<23)", 0), 3, 20, 27);
        });
        b.test(18, "NO: n, what.", () -> {
            for (int n : new int[] {-1, 0, 25, LOW, HIGH}) {
                b.refused("home(" + n + ", 0)", Houses::furnished, x -> x.home(n, 0), NO);
                b.refused("home(" + n + ", 1)", Houses::furnished, x -> x.home(n, 1), NO);
            }
            for (int what : new int[] {-1, 2, LOW, HIGH}) {
                b.refused("home(1, " + what + ")", Houses::furnished, x -> x.home(1, what), NO);
            }
        });
    }
}
