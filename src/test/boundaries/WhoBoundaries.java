/** Promises 10 to 12: weights, who it is, how likely. */
final class WhoBoundaries {
    private static final int NONE = Boundary.NONE, LOW = Boundary.LOW, HIGH = Boundary.HIGH;
    private static final long NO = Boundary.NO;
    // 999 times a knock's 12, six times: far above what an int holds.
    private static final long MOST_WEIGHT = 2982998016L;

    private final Boundary b;

    WhoBoundaries(Boundary b) {
        this.b = b;
    }

    void all() {
        weight();
        who();
        odds();
    }

    private static AtTheDoor sevenQuiet() {
        return Houses.hearing(Houses.ruled("comes 999;worth 99;costs 99;", 2, 2, 2, 2, 2, 2, 2), 2, 2, 2, 2, 2, 2);
    }

    private void weight() {
        b.test(10, "WEIGHT of a CALLER: 0, if it doesn't STAY; else comes, times SOUNDS of each SIGN that is HEARD, by its number.", () -> {
            AtTheDoor x = Houses.coming("7", 2);
            b.due("none are heard", x.weight(0), 7);
            x.set(3, 0, 1);
            b.due("it does not stay", x.weight(0), 0);
            x = Houses.coming("1", 3, 4, 5);
            x.set(5, 0, 9);
            long[][] due = {{1, 2, 1}, {10, 4, 2}, {10, 8, 6}, {10, 16, 24}, {10, 32, 120}, {10, 64, 720}};
            for (int i = 0; i < 6; i++) {
                x.hear(1);
                for (int who = 0; who < 3; who++) {
                    b.due("weight(" + who + ") behind long number " + i, x.weight(who), due[i][who]);
                }
            }
            x.hush();
            b.due("a child behind nothing, six times", Houses.hearing(x, 3, 3, 3, 3, 3, 3).weight(1), 2L * 15 * 15 * 15 * 15 * 15);
            x.hush();
            b.due("a parcel behind long, short", Houses.hearing(x, 1, 0).weight(0), 9);
            x.hush();
            b.due("a parcel behind short, long", Houses.hearing(x, 0, 1).weight(0), 90);
            b.due("the most", sevenQuiet().weight(6), MOST_WEIGHT);
        });
        b.test(10, "ALL: WEIGHTS of all CALLERS, together.", () -> {
            b.due("nobody", new AtTheDoor().weight(NONE), 0);
            b.due("one", Houses.coming("3", 0).weight(NONE), 3);
            b.due("seven", Houses.coming("1+who", 0, 0, 0, 0, 0, 0, 0).weight(NONE), 28);
            b.due("the most", sevenQuiet().weight(NONE), 7 * MOST_WEIGHT);
            AtTheDoor x = Houses.coming("1+who", 0, 2);
            x.set(3, 0, 1);
            b.due("one of two goes at once", x.weight(NONE), 1);
        });
        b.test(10, "WEIGHT of a CALLER; ALL (who NONE).", () -> {
            AtTheDoor x = Houses.coming("1+who", 0, 0, 0, 0, 0, 0, 0);
            b.due("the first", x.weight(0), 1);
            b.due("the last", x.weight(6), 7);
            b.due("all", x.weight(-1), 28);
        });
        b.test(10, "NO: no such one.", () -> {
            for (int who : new int[] {-2, 2, 6, 7, LOW, HIGH}) {
                b.refused("weight(" + who + ")", Houses::furnished, x -> x.weight(who), NO);
            }
            b.refused("weight(7) of seven", Houses::full, x -> x.weight(7), NO);
            b.due("weight(0) of nobody", new AtTheDoor().weight(0), NO);
        });
    }

    private void who() {
        b.test(11, "WHO: the CALLER of most WEIGHT; of like ones the first;", () -> {
            b.due("one", Houses.coming("1", 0).who(), 0);
            b.due("the last is most", Houses.coming("who", 0, 0, 0, 0, 0, 0, 0).who(), 6);
            b.due("the first is most", Houses.coming("9-who", 0, 0, 0, 0, 0, 0, 0).who(), 0);
            b.due("all are alike", Houses.coming("1", 0, 0, 0).who(), 0);
            b.due("two of three are alike", Houses.coming("1+(0<who)", 0, 0, 0).who(), 1);
            b.due("one more than another", Houses.coming("998+who", 0, 0).who(), 1);
            b.due("alike by the bound", Houses.coming("999+who", 0, 0).who(), 0);
            b.due("the most, alike", sevenQuiet().who(), 0);
        });
        b.test(11, "NONE, if ALL is 0.", () -> {
            b.due("nobody", new AtTheDoor().who(), NONE);
            b.due("none comes", Houses.coming("0", 0, 0).who(), NONE);
            AtTheDoor x = Houses.coming("1", 2);
            b.due("one stays", x.who(), 0);
            x.set(3, 0, 1);
            b.due("none stays", x.who(), NONE);
        });
        b.test(11, "WHO. NONE.", () -> {
            AtTheDoor x = Houses.furnished();
            b.due("who()", x.who(), 0);
            b.due("nothing changes", Houses.allOf(x), Houses.allOf(Houses.furnished()));
            b.due("who() of nobody", new AtTheDoor().who(), -1);
        });
    }

    private void share(AtTheDoor x, int who, long above, long below) {
        b.due("odds(" + who + ", 0)", x.odds(who, 0), above);
        b.due("odds(" + who + ", 1)", x.odds(who, 1), below);
    }

    private void odds() {
        b.test(12, "ODDS: WEIGHT by ALL.", () -> {
            AtTheDoor x = Houses.coming("3+who", 0, 0);
            share(x, 0, 3, 7);
            share(x, 1, 4, 7);
            share(Houses.coming("5", 0), 0, 1, 1);
        });
        b.test(12, "ODDS: part 0 above, 1 below the line, in lowest terms.", () -> {
            AtTheDoor x = Houses.coming("6*(who+1)", 0, 0, 0);
            share(x, 0, 1, 6);
            share(x, 1, 1, 3);
            share(x, 2, 1, 2);
            x = Houses.coming("who*6", 0, 0);
            share(x, 0, 0, 1);
            share(x, 1, 1, 1);
            share(sevenQuiet(), 6, 1, 7);
            share(Houses.coming("998+who", 0, 0), 1, 999, 1997);
        });
        b.test(12, "NO: none such; ALL is 0.", () -> {
            for (int part : new int[] {-1, 2, LOW, HIGH}) {
                b.refused("odds(0, " + part + ")", Houses::furnished, x -> x.odds(0, part), NO);
            }
            for (int who : new int[] {NONE, -2, 2, 7, LOW, HIGH}) {
                b.refused("odds(" + who + ", 0)", Houses::furnished, x -> x.odds(who, 0), NO);
                b.refused("odds(" + who + ", 1)", Houses::furnished, x -> x.odds(who, 1), NO);
            }
            AtTheDoor x = Houses.coming("0", 0);
            share(x, 0, NO, NO);
            share(new AtTheDoor(), 0, NO, NO);
        });
    }
}
