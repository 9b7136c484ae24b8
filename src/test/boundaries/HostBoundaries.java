/** Promises 26 to 33: images, counts, sheets, and callers that are taken for a kind. */
final class HostBoundaries {
    private static final int NONE = Boundary.NONE, BAD = Boundary.BAD, STATE = Boundary.STATE;
    private static final int NOTHING = Boundary.NOTHING, OUTSIDE = Boundary.OUTSIDE, UNLIKE = Boundary.UNLIKE;
    private static final int BELOW_ZERO = Boundary.BELOW_ZERO, LOW = Boundary.LOW, HIGH = Boundary.HIGH;

    private final Boundary b;

    HostBoundaries(Boundary b) {
        this.b = b;
    }

    void all() {
        image();
        back();
        count();
        sheet();
        cell();
        copy();
        copyRefusals();
        hears();
        hearsRefusals();
        taken();
    }

    private void image() {
        b.test(26, "AN IMAGE keeps HOUR, DAY, AT HOME, HEARD, DOG, NOTICE, NUMBERS, THE RULE (CALLERS that came since go).", () -> {
            AtTheDoor x = Houses.full();
            x.set(0, 0, 23);
            x.set(1, 0, 6);
            x.set(2, 0, 0);
            x.set(3, 0, 1);
            x.set(4, 0, 1);
            x.set(5, 6, 9);
            x.force(5);
            String were = Houses.counts(x);
            x.image();
            x.set(0, 0, 0);
            x.set(1, 0, 0);
            x.set(2, 0, 1);
            x.set(3, 0, 0);
            x.set(4, 0, 0);
            x.set(5, 0, 0);
            x.set(5, 6, 0);
            x.hush();
            Houses.hearing(x, 3, 3, 3, 3, 3, 3);
            x.force(0);
            x.back();
            b.due("counts, behind six other signs", Houses.counts(x), were);
            x.hush();
            x.hear(2);
            x.back();
            b.due("counts, behind one other sign", Houses.counts(x), were);
            b.due("the first's number", x.told(0, 1), 1);
            b.due("the last's number", x.told(6, 1), 9);
            x = new AtTheDoor();
            x.image();
            for (int i = 0; i < 7; i++) {
                x.caller(0, 0);
            }
            x.back();
            b.due("all who came since go", x.count(0), 0);
            b.due("none is left", x.told(0, 0), BAD);
            b.due("there is room again", x.caller(4, 2), 0);
            b.due("its kind", x.told(0, 0), 4);
        });
        b.test(26, "AN IMAGE is kept: how many CALLERS.", () -> {
            b.due("nobody", new AtTheDoor().image(), 0);
            AtTheDoor x = Houses.full();
            b.due("seven", x.image(), 7);
            b.due("the same again", x.image(), 7);
            x = new AtTheDoor();
            x.image();
            x.caller(1, 1);
            b.due("a later one", x.image(), 1);
            x.caller(2, 2);
            b.due("the later one is kept", x.back(), 1);
        });
    }

    private void back() {
        b.test(27, "All that it keeps is as in THE IMAGE: how many CALLERS.", () -> {
            AtTheDoor x = Houses.furnished();
            b.due("back()", x.back(), 1);
            b.due("hour", x.count(2), 7);
            b.due("day", x.count(3), 0);
            b.due("at home", x.count(4), 1);
            b.due("dog", x.count(5), 0);
            b.due("notice", x.count(6), 1);
            b.due("heard", Houses.heard(x), "1.....");
            b.due("the rule", x.count(9), 0);
            b.due("who came since is gone", x.taken(1, 0), NOTHING);
            b.due("texts stay", x.count(7), 2);
            b.due("the tape stays", x.count(8), 13);
            b.due("sheets stay", x.cell(2, 2, 0), 1);
            x.set(0, 0, 1);
            x.caller(5, 5);
            b.due("it can be laid back again", x.back(), 1);
            b.due("hour", x.count(2), 7);
            AtTheDoor y = new AtTheDoor();
            y.image();
            b.due("nobody", y.back(), 0);
            y = Houses.full();
            y.image();
            b.due("seven", y.back(), 7);
        });
        b.test(27, "STATE: there is none.", () -> {
            b.due("at first", new AtTheDoor().back(), STATE);
            b.refused("back()", Houses::full, x -> x.back(), STATE);
        });
    }

    private void count() {
        b.test(28, "How many: 0 CALLERS, 1 HEARD, 2 HOUR, 3 DAY, 4 AT HOME, 5 DOG, 6 NOTICE, 7 TEXTS, "
                + "8 bytes of THE TAPE, 9 THE RULE;", () -> {
            b.due("at first", Houses.counts(new AtTheDoor()), "0 0 9 0 1 0 0 1 0 0 -1 -1 -1 -1 -1 -1 ");
            b.due("in a furnished house", Houses.counts(Houses.furnished()), "2 2 20 5 0 1 0 2 13 1 2 3 -1 -1 -1 -1 ");
            b.due("in a full house", Houses.counts(Houses.full()), "7 6 9 0 1 0 0 6 160 0 0 1 2 3 1 0 ");
        });
        b.test(28, "10 .. 15 SIGN what less 10 that is HEARD (NONE).", () -> {
            AtTheDoor x = new AtTheDoor();
            int[] signs = {3, 0, 2, 1, 0, 3};
            for (int heard = 0; heard <= 6; heard++) {
                for (int i = 0; i < 6; i++) {
                    b.due("count(" + (10 + i) + ") with " + heard, x.count(10 + i), i < heard ? signs[i] : NONE);
                }
                x.hear(signs[heard % 6]);
            }
        });
        b.test(28, "BAD.", () -> {
            for (int what : new int[] {-1, 16, LOW, HIGH}) {
                b.refused("count(" + what + ")", Houses::furnished, x -> x.count(what), BAD);
                b.refused("count(" + what + ")", Houses::full, x -> x.count(what), BAD);
            }
        });
    }

    /** How Houses.cells() tells a row of a sort. */
    private static String row(int sort, String cells) {
        StringBuilder told = new StringBuilder();
        for (int other = 0; other < 3; other++) {
            told.append(other == sort ? "0 " + cells : "-13 ");
        }
        return told.toString();
    }

    private void sheet() {
        b.test(29, "SHEETS 0 .. 3 are rows of numbers, or missing (as all are at first): of sort 0 bytes, 1 shorts, 2 ints.", () -> {
            AtTheDoor x = new AtTheDoor();
            for (int sheet = 0; sheet < 4; sheet++) {
                b.due("missing at first", x.cell(sheet, 0, 0), NOTHING);
            }
            for (int sheet = 0; sheet < 4; sheet++) {
                for (int sort = 0; sort < 3; sort++) {
                    b.due("a row", x.sheet(sheet, sort, 1), 1);
                    for (int other = 0; other < 3; other++) {
                        b.due("it is of sort " + sort, x.hears(sheet, other, 0, 0), other == sort ? 0 : UNLIKE);
                    }
                }
            }
            b.due("ahead of the first", x.sheet(-1, 0, 1), BAD);
            b.due("behind the last", x.sheet(4, 0, 1), BAD);
        });
        b.test(29, "A SHEET becomes a row of n of a sort, all 0, or missing (sort -1: n does not matter): 1.", () -> {
            AtTheDoor x = Houses.coming("1", 0);
            b.due("of none", x.sheet(0, 0, 0), 1);
            b.due("it has no place", x.cell(0, 0, 0), OUTSIDE);
            b.due("of forty", x.sheet(0, 2, 40), 1);
            for (int i = 0; i < 40; i++) {
                b.due("a place", x.cell(0, i, 7), 1);
            }
            b.due("behind them", x.cell(0, 40, 7), OUTSIDE);
            for (int sort = 0; sort < 3; sort++) {
                b.due("of forty again", x.sheet(0, sort, 40), 1);
                b.due("all 0", Houses.cells(x, 0), row(sort, "0".repeat(40)));
            }
            x.sheet(0, 1, 2);
            x.cell(0, 1, 3);
            x.sheet(0, 1, 1);
            x.sheet(0, 1, 2);
            b.due("all 0 behind a shorter one", Houses.cells(x, 0), row(1, "00"));
            for (int n : new int[] {LOW, -1, 0, 41, HIGH}) {
                x.sheet(1, 0, 1);
                b.due("missing, n " + n, x.sheet(1, -1, n), 1);
                b.due("it is", x.cell(1, 0, 0), NOTHING);
            }
            b.due("missing again", x.sheet(1, -1, 0), 1);
        });
        b.test(29, "BAD: no such SHEET, sort; n above 40;", () -> {
            for (int none : new int[] {-1, 4, LOW, HIGH}) {
                b.refused("sheet(" + none + ", 0, 1)", Houses::furnished, x -> x.sheet(none, 0, 1), BAD);
                b.refused("sheet(" + none + ", -1, 1)", Houses::furnished, x -> x.sheet(none, -1, 1), BAD);
            }
            for (int sort : new int[] {-2, 3, LOW, HIGH}) {
                b.refused("sheet(0, " + sort + ", 1)", Houses::furnished, x -> x.sheet(0, sort, 1), BAD);
                b.refused("sheet(0, " + sort + ", -1)", Houses::furnished, x -> x.sheet(0, sort, -1), BAD);
            }
            for (int n : new int[] {41, HIGH}) {
                b.refused("sheet(0, 0, " + n + ")", Houses::furnished, x -> x.sheet(0, 0, n), BAD);
                b.refused("sheet(3, 2, " + n + ")", Houses::furnished, x -> x.sheet(3, 2, n), BAD);
            }
        });
        b.test(29, "-14.", () -> {
            for (int n : new int[] {-1, -41, LOW}) {
                b.refused("sheet(0, 0, " + n + ")", Houses::furnished, x -> x.sheet(0, 0, n), BELOW_ZERO);
                b.refused("sheet(3, 2, " + n + ")", Houses::furnished, x -> x.sheet(3, 2, n), BELOW_ZERO);
            }
        });
    }

    /** What is heard of a cell that became v: a sign, or x. */
    private void becomes(int sort, int v, String due) {
        AtTheDoor x = new AtTheDoor();
        x.sheet(0, sort, 1);
        b.due("cell", x.cell(0, 0, v), 1);
        b.due(v + " of sort " + sort, Houses.cells(x, 0), row(sort, due));
    }

    private void cell() {
        b.test(30, "Item i of a SHEET becomes v (of bytes, shorts its lowest 8, 16 bits): 1.", () -> {
            int[][] all = {{3, 3, 3, 3}, {255, -1, -1, -1}, {256, 0, -1, -1}, {259, 3, -1, -1}, {-253, 3, -1, -1},
                {65535, -1, -1, -1}, {65536, 0, 0, -1}, {65538, 2, 2, -1}, {-65535, 1, 1, -1}, {HIGH, -1, -1, -1},
                {LOW, 0, 0, -1}, {LOW + 1, 1, 1, -1}, {-1, -1, -1, -1}, {4, -1, -1, -1}, {128, -1, -1, -1}};
            for (int[] each : all) {
                for (int sort = 0; sort < 3; sort++) {
                    becomes(sort, each[0], each[1 + sort] == -1 ? "x" : String.valueOf(each[1 + sort]));
                }
            }
            AtTheDoor x = new AtTheDoor();
            x.sheet(2, 1, 40);
            b.due("the first", x.cell(2, 0, 1), 1);
            b.due("the last", x.cell(2, 39, 2), 1);
            b.due("these alone", Houses.cells(x, 2), row(1, "1" + "0".repeat(38) + "2"));
        });
        b.test(30, "BAD: no such SHEET;", () -> {
            for (int none : new int[] {-1, 4, LOW, HIGH}) {
                b.refused("cell(" + none + ", 0, 3)", Houses::furnished, x -> x.cell(none, 0, 3), BAD);
                b.refused("cell(" + none + ", -1, 3)", Houses::furnished, x -> x.cell(none, -1, 3), BAD);
            }
        });
        b.test(30, "-11; -12.", () -> {
            for (int i : new int[] {-1, 0, 40, LOW, HIGH}) {
                b.refused("cell(3, " + i + ", 3)", Houses::furnished, x -> x.cell(3, i, 3), NOTHING);
            }
            for (int i : new int[] {-1, 2, 39, 40, LOW, HIGH}) {
                b.refused("cell(0, " + i + ", 3)", Houses::furnished, x -> x.cell(0, i, 3), OUTSIDE);
            }
        });
    }

    private static AtTheDoor copying() {
        AtTheDoor x = new AtTheDoor();
        Houses.row(x, 0, 1, 0, 1, 2, 3);
        Houses.row(x, 1, 1, 3, 3);
        return x;
    }

    private void copied(int i, int other, int j, int n, String first, String second) {
        AtTheDoor x = copying();
        b.due("copy(0, " + i + ", " + other + ", " + j + ", " + n + ")", x.copy(0, i, other, j, n), n);
        b.due("sheet 0", Houses.cells(x, 0), row(1, first));
        b.due("sheet 1", Houses.cells(x, 1), row(1, second));
    }

    private void copy() {
        b.test(31, "n numbers of a SHEET, from item i on, come to another one's item j on (as they were): n.", () -> {
            copied(2, 1, 0, 2, "0123", "23");
            copied(3, 1, 1, 1, "0123", "33");
            copied(0, 1, 1, 1, "0123", "30");
            copied(0, 0, 1, 3, "0012", "33");
            copied(1, 0, 0, 3, "1233", "33");
            copied(0, 0, 0, 4, "0123", "33");
            copied(0, 1, 0, 0, "0123", "33");
            copied(4, 1, 2, 0, "0123", "33");
            copied(4, 0, 4, 0, "0123", "33");
            AtTheDoor x = new AtTheDoor();
            for (int sort = 0; sort < 3; sort++) {
                x.sheet(0, sort, 40);
                x.sheet(3, sort, 40);
                b.due("forty", x.copy(0, 0, 3, 0, 40), 40);
                x.sheet(1, sort, 0);
                b.due("none of none", x.copy(1, 0, 1, 0, 0), 0);
            }
            Houses.row(x, 0, 2, 65536 + 1);
            x.sheet(1, 2, 1);
            x.copy(0, 0, 1, 0, 1);
            b.due("all bits of it", x.hears(1, 2, 0, 1), 0);
        });
    }

    private void copyRefusals() {
        b.test(31, "BAD: no such SHEET; -11;", () -> {
            for (int none : new int[] {-1, 4, LOW, HIGH}) {
                b.refused("copy(" + none + ", 0, 0, 0, 1)", Houses::furnished, x -> x.copy(none, 0, 0, 0, 1), BAD);
                b.refused("copy(0, 0, " + none + ", 0, 1)", Houses::furnished, x -> x.copy(0, 0, none, 0, 1), BAD);
                b.refused("copy(3, 0, " + none + ", 0, -1)", Houses::furnished, x -> x.copy(3, 0, none, 0, -1), BAD);
            }
            b.refused("copy(3, 0, 0, 0, 1)", Houses::furnished, x -> x.copy(3, 0, 0, 0, 1), NOTHING);
            b.refused("copy(0, 0, 3, 0, 1)", Houses::furnished, x -> x.copy(0, 0, 3, 0, 1), NOTHING);
            b.refused("copy(3, 0, 3, 0, 0)", Houses::furnished, x -> x.copy(3, 0, 3, 0, 0), NOTHING);
            b.refused("copy(0, -1, 3, 0, -1)", Houses::furnished, x -> x.copy(0, -1, 3, 0, -1), NOTHING);
        });
        b.test(31, "-13: they are of unlike sorts;", () -> {
            for (int sheet = 0; sheet < 3; sheet++) {
                for (int other = 0; other < 3; other++) {
                    int from = sheet;
                    int to = other;
                    if (from != to) {
                        b.refused("copy " + from + " to " + to, Houses::furnished, x -> x.copy(from, 0, to, 0, 1), UNLIKE);
                        b.refused("none of " + from + " to " + to, Houses::furnished, x -> x.copy(from, 0, to, 0, 0), UNLIKE);
                        b.refused("outside", Houses::furnished, x -> x.copy(from, -1, to, 0, -1), UNLIKE);
                    }
                }
            }
        });
        b.test(31, "-12 (also with n below 0).", () -> {
            int[][] outside = {{0, 0, 3}, {3, 0, 2}, {4, 0, 1}, {5, 0, 0}, {0, 1, 2}, {0, 2, 1}, {0, 3, 0}, {-1, 0, 1},
                {0, -1, 1}, {-1, 0, 0}, {0, -1, 0}, {0, 0, -1}, {1, 1, -1}, {0, 0, LOW}, {0, 0, HIGH}, {HIGH, 0, 1},
                {0, HIGH, 1}, {HIGH, HIGH, HIGH}, {LOW, LOW, LOW}, {LOW, 0, 1}, {1, 1, HIGH}, {4, 2, -1}};
            for (int[] each : outside) {
                b.refused("copy(0, " + each[0] + ", 1, " + each[1] + ", " + each[2] + ")", HostBoundaries::copying,
                        x -> x.copy(0, each[0], 1, each[1], each[2]), OUTSIDE);
            }
            b.refused("onto itself, one too far", HostBoundaries::copying, x -> x.copy(0, 0, 0, 1, 4), OUTSIDE);
        });
    }

    private void hears() {
        b.test(32, "SIGNS by a SHEET that is taken for one of a sort: from one on, one by one (as of hear()), "
                + "n of them (0 .. 6): how many were HEARD (others are left out).", () -> {
            for (int sort = 0; sort < 3; sort++) {
                AtTheDoor x = new AtTheDoor();
                Houses.row(x, 0, sort, 3, 4, -1, 2, 1, 0, 0, 3);
                b.due("none", x.hears(0, sort, 0, 0), 0);
                b.due("none, behind the last", x.hears(0, sort, 8, 0), 0);
                b.due("nothing is heard", x.count(1), 0);
                b.due("others are left out", x.hears(0, sort, 0, 4), 2);
                b.due("heard", Houses.heard(x), "32....");
                b.due("others alone", x.hears(0, sort, 1, 2), 0);
                b.due("behind those", x.hears(0, sort, 4, 1), 1);
                b.due("heard", Houses.heard(x), "321...");
                b.due("the last", x.hears(0, sort, 7, 1), 1);
                b.due("until six are", x.hears(0, sort, 2, 6), 2);
                b.due("heard", Houses.heard(x), "321321");
                b.due("with no room", x.hears(0, sort, 2, 6), 0);
                x.hush();
                b.due("six", x.hears(0, sort, 2, 6), 5);
                b.due("heard", Houses.heard(x), "21003.");
                x.sheet(1, sort, 6);
                x.hush();
                b.due("six that are signs", x.hears(1, sort, 0, 6), 6);
            }
        });
    }

    private void hearsRefusals() {
        b.test(32, "BAD: no such SHEET, sort, n;", () -> {
            for (int none : new int[] {-1, 4, LOW, HIGH}) {
                b.refused("hears(" + none + ", 0, 0, 1)", Houses::furnished, x -> x.hears(none, 0, 0, 1), BAD);
            }
            for (int sort : new int[] {-1, 3, LOW, HIGH}) {
                b.refused("hears(0, " + sort + ", 0, 1)", Houses::furnished, x -> x.hears(0, sort, 0, 1), BAD);
                b.refused("hears(3, " + sort + ", 0, 1)", Houses::furnished, x -> x.hears(3, sort, 0, 1), BAD);
            }
            for (int n : new int[] {-1, 7, LOW, HIGH}) {
                b.refused("hears(0, 0, 0, " + n + ")", Houses::furnished, x -> x.hears(0, 0, 0, n), BAD);
                b.refused("hears(0, 1, 0, " + n + ")", Houses::furnished, x -> x.hears(0, 1, 0, n), BAD);
                b.refused("hears(3, 0, 0, " + n + ")", Houses::furnished, x -> x.hears(3, 0, 0, n), BAD);
            }
        });
        b.test(32, "-13; -11;", () -> {
            for (int sheet = 0; sheet < 3; sheet++) {
                for (int sort = 0; sort < 3; sort++) {
                    int s = sheet;
                    int t = sort;
                    if (s != t) {
                        b.refused("hears, unlike", Houses::furnished, x -> x.hears(s, t, 0, 1), UNLIKE);
                        b.refused("hears none, unlike", Houses::furnished, x -> x.hears(s, t, 0, 0), UNLIKE);
                        b.refused("hears, unlike and outside", Houses::furnished, x -> x.hears(s, t, -1, 1), UNLIKE);
                    }
                }
            }
            for (int sort = 0; sort < 3; sort++) {
                int t = sort;
                b.refused("hears, missing", Houses::furnished, x -> x.hears(3, t, 0, 1), NOTHING);
                b.refused("hears none, missing", Houses::furnished, x -> x.hears(3, t, 0, 0), NOTHING);
                b.refused("hears, missing and outside", Houses::furnished, x -> x.hears(3, t, -1, 6), NOTHING);
            }
        });
        b.test(32, "-12: what stood ahead was HEARD.", () -> {
            AtTheDoor x = new AtTheDoor();
            Houses.row(x, 0, 0, 1, 9, 2);
            b.due("one too many", x.hears(0, 0, 0, 4), OUTSIDE);
            b.due("heard", Houses.heard(x), "12....");
            b.due("from the last on", x.hears(0, 0, 2, 2), OUTSIDE);
            b.due("heard", Houses.heard(x), "122...");
            b.due("six, one inside", x.hears(0, 0, 2, 6), OUTSIDE);
            b.due("heard", Houses.heard(x), "1222..");
            for (int from : new int[] {-1, 3, LOW, HIGH, HIGH - 5, LOW + 5, -6}) {
                b.due("from " + from, x.hears(0, 0, from, 6), OUTSIDE);
                b.due("nothing stood ahead", Houses.heard(x), "1222..");
            }
            Houses.hearing(x, 0, 0);
            b.due("with no room", x.hears(0, 0, 0, 4), OUTSIDE);
            b.due("heard", Houses.heard(x), "122200");
            x.sheet(0, 0, 0);
            b.due("of an empty one", x.hears(0, 0, 0, 1), OUTSIDE);
        });
    }

    private void taken() {
        b.test(33, "A CALLER taken for one of KIND k (0 .. 5), or one under that one (also by others between): its NUMBER.", () -> {
            // What each kind is: itself, and those that it is under.
            int[][] is = {{0}, {0, 1}, {0, 2}, {0, 1, 3}, {0, 2, 4}, {0, 1, 5}};
            AtTheDoor x = new AtTheDoor();
            for (int kind = 0; kind < 6; kind++) {
                x.caller(kind, 9 - kind);
            }
            x.caller(5, 0);
            for (int kind = 0; kind < 6; kind++) {
                for (int k : is[kind]) {
                    b.due("kind " + kind + " taken for " + k, x.taken(kind, k), 9 - kind);
                }
            }
            b.due("the last, number 0", x.taken(6, 0), 0);
            x.set(5, 6, 9);
            b.due("the last, number 9", x.taken(6, 5), 9);
        });
        b.test(33, "BAD: k;", () -> {
            for (int k : new int[] {-1, 6, LOW, HIGH}) {
                b.refused("taken(0, " + k + ")", Houses::furnished, x -> x.taken(0, k), BAD);
                b.refused("taken(2, " + k + ")", Houses::furnished, x -> x.taken(2, k), BAD);
            }
        });
        b.test(33, "-11: no such CALLER;", () -> {
            for (int who : new int[] {-1, 2, 7, LOW, HIGH}) {
                for (int kind = 0; kind < 6; kind++) {
                    int k = kind;
                    b.refused("taken(" + who + ", " + k + ")", Houses::furnished, x -> x.taken(who, k), NOTHING);
                }
            }
            AtTheDoor x = Houses.furnished();
            x.back();
            b.due("one who is gone", x.taken(1, 0), NOTHING);
        });
        b.test(33, "-13.", () -> {
            int[][] isNot = {{1, 2, 3, 4, 5}, {2, 3, 4, 5}, {1, 3, 4, 5}, {2, 4, 5}, {1, 3, 5}, {2, 3, 4}};
            for (int kind = 0; kind < 6; kind++) {
                for (int k : isNot[kind]) {
                    int who = kind;
                    b.refused("kind " + kind + " taken for " + k, Houses::full, x -> x.taken(who, k), UNLIKE);
                }
            }
        });
    }
}
