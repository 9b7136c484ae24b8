/** Each promise but those of texts (TextsTest): ordinary calls, the edges that are named, wrong calls. */
public final class PromisesTest {
    private static final int NOTHING = -11, OUTSIDE = -12, UNLIKE = -13, BELOW_ZERO = -14;
    private static final int NONE = AtTheDoor.NONE, BAD = AtTheDoor.BAD, STATE = AtTheDoor.STATE, FULL = AtTheDoor.FULL;
    private static final long NO = AtTheDoor.NO;
    private static final int LOW = Integer.MIN_VALUE, HIGH = Integer.MAX_VALUE;

    private static int wrong = 0;

    private static void due(int promise, String call, long got, long want) {
        if (got != want) {
            wrong++;
            System.out.println("promise " + promise + ": " + call + " answered " + got + ", due is " + want);
        }
    }

    private static int text(AtTheDoor x, String text) {
        for (int i = 0; i < text.length(); i++) {
            x.feed(text.charAt(i));
        }
        return x.text();
    }

    /** A door whose rule is the told text, with callers of the told kinds, their numbers 0. */
    private static AtTheDoor door(String text, int... kinds) {
        AtTheDoor x = new AtTheDoor();
        due(8, text, text(x, text), 1);
        due(9, "force(1)", x.force(1), 0);
        for (int kind : kinds) {
            x.caller(kind, 0);
        }
        return x;
    }

    private static void row(AtTheDoor x, int sheet, int sort, int... cells) {
        due(29, "sheet", x.sheet(sheet, sort, cells.length), 1);
        for (int i = 0; i < cells.length; i++) {
            due(30, "cell", x.cell(sheet, i, cells[i]), 1);
        }
    }

    private static void newObject() {
        AtTheDoor x = new AtTheDoor();
        int[] counts = {0, 0, 9, 0, 1, 0, 0, 1, 0, 0, NONE, NONE, NONE, NONE, NONE, NONE};
        for (int i = 0; i < counts.length; i++) {
            due(1, "count(" + i + ")", x.count(i), counts[i]);
        }
        due(1, "who()", x.who(), NONE);
        due(1, "weight(NONE)", x.weight(NONE), 0);
        due(1, "back()", x.back(), STATE);
        for (int i = 0; i < 4; i++) {
            due(1, "cell of a missing sheet", x.cell(i, 0, 0), NOTHING);
        }
    }

    private static void set() {
        AtTheDoor x = new AtTheDoor();
        due(2, "hour", x.set(0, HIGH, 23), 9);
        due(2, "hour", x.set(0, LOW, 0), 23);
        due(2, "hour", x.set(0, 0, 24), BAD);
        due(2, "hour", x.set(0, 0, -1), BAD);
        due(2, "hour stays", x.count(2), 0);
        due(2, "day", x.set(1, 5, 6), 0);
        due(2, "day", x.set(1, 5, 7), BAD);
        due(2, "day", x.set(1, 5, 3), 6);
        due(2, "at home", x.set(2, -1, 0), 1);
        due(2, "at home", x.set(2, -1, 2), BAD);
        due(2, "at home", x.count(4), 0);
        due(2, "dog", x.set(3, 7, 1), 0);
        due(2, "dog", x.set(3, 7, -1), BAD);
        due(2, "dog", x.set(3, 7, 1), 1);
        due(2, "notice", x.set(4, 7, 1), 0);
        due(2, "notice", x.set(4, 7, 2), BAD);
        due(2, "notice", x.count(6), 1);
        due(2, "dog", x.count(5), 1);
        due(2, "nobody's number", x.set(5, 0, 0), BAD);
        x.caller(1, 4);
        due(2, "number", x.set(5, 0, 9), 4);
        due(2, "number", x.set(5, 0, 10), BAD);
        due(2, "number", x.set(5, 0, -1), BAD);
        due(2, "number", x.set(5, 1, 1), BAD);
        due(2, "number", x.set(5, -1, 1), BAD);
        due(2, "number", x.told(0, 1), 9);
        due(2, "what", x.set(6, 0, 0), BAD);
        due(2, "what", x.set(-1, 0, 0), BAD);
        due(2, "what", x.set(LOW, 0, 0), BAD);
    }

    private static void caller() {
        AtTheDoor x = new AtTheDoor();
        due(3, "kind", x.caller(6, 0), BAD);
        due(3, "kind", x.caller(-1, 0), BAD);
        due(3, "number", x.caller(0, 10), BAD);
        due(3, "number", x.caller(0, -1), BAD);
        due(3, "nobody came", x.count(0), 0);
        for (int i = 0; i < 7; i++) {
            due(3, "caller", x.caller(i % 6, 9 - i), i);
            due(3, "kind", x.told(i, 0), i % 6);
            due(3, "number", x.told(i, 1), 9 - i);
        }
        due(3, "eighth", x.caller(0, 0), FULL);
        due(3, "eighth that is bad", x.caller(9, 0), BAD);
        due(3, "callers", x.count(0), 7);
    }

    private static void hearAndHush() {
        AtTheDoor x = new AtTheDoor();
        due(5, "hush()", x.hush(), 0);
        due(4, "hear(4)", x.hear(4), BAD);
        due(4, "hear(-1)", x.hear(-1), BAD);
        int[] signs = {3, 2, 1, 0, 3, 1};
        for (int i = 0; i < 6; i++) {
            due(4, "hear", x.hear(signs[i]), i + 1);
        }
        due(4, "seventh", x.hear(0), FULL);
        due(4, "seventh that is bad", x.hear(9), BAD);
        for (int i = 0; i < 6; i++) {
            due(28, "sign", x.count(10 + i), signs[i]);
        }
        due(5, "hush()", x.hush(), 6);
        due(5, "none are heard", x.count(1), 0);
        due(5, "none are heard", x.count(10), NONE);
        due(4, "hear behind none", x.hear(2), 1);
        due(4, "sign", x.count(10), 2);
        due(4, "sign", x.count(11), NONE);
    }

    private static void toldSounds() {
        AtTheDoor x = new AtTheDoor();
        for (int kind = 0; kind < 6; kind++) {
            x.caller(kind, 7);
        }
        int[][] first = {{5, 5, 5, 5}, {9, 1, 1, 1}, {2, 2, 12, 2}, {9, 1, 1, 1}, {2, 2, 12, 2}, {9, 1, 1, 1}};
        int[][] second = {{5, 5, 5, 5}, {9, 1, 1, 1}, {2, 2, 12, 2}, {9, 8, 1, 1}, {2, 2, 12, 15}, {9, 2, 1, 1}};
        int[][] third = {{5, 5, 5, 5}, {9, 1, 1, 1}, {2, 2, 12, 2}, {9, 1, 1, 1}, {2, 2, 12, 15}, {9, 3, 1, 1}};
        int[][][] all = {first, second, third};
        for (int i = 0; i < 3; i++) {
            for (int who = 0; who < 6; who++) {
                for (int g = 0; g < 4; g++) {
                    due(6, "sounds of " + who + " for " + g + " at " + i, x.told(who, 4 + g), all[i][who][g]);
                }
            }
            x.hear(0);
        }
        for (int i = 3; i < 6; i++) {
            x.hear(0);
        }
        due(6, "sounds behind six", x.told(5, 5), 7);
        due(6, "what", x.told(0, 8), BAD);
        due(6, "what", x.told(0, -1), BAD);
        due(6, "who", x.told(6, 0), BAD);
        due(6, "who", x.told(-1, 0), BAD);
    }

    private static void toldWaitsAndStays() {
        AtTheDoor x = new AtTheDoor();
        for (int kind = 0; kind < 6; kind++) {
            x.caller(kind, 8);
        }
        int[] morning = {3, 5, 2, 10, 0, 10};
        int[] noon = {3, 5, 2, 5, 0, 10};
        x.set(0, 0, 11);
        for (int who = 0; who < 6; who++) {
            due(6, "waits at 11 of " + who, x.told(who, 2), morning[who]);
        }
        x.set(0, 0, 12);
        for (int who = 0; who < 6; who++) {
            due(6, "waits at 12 of " + who, x.told(who, 2), noon[who]);
        }
        x.set(5, 1, 2);
        due(6, "waits by number 2", x.told(1, 2), 3);
        x.set(5, 1, 9);
        due(6, "waits by number 9", x.told(1, 2), 6);
        // Bits of those who stay: of neither, a dog, a notice, both.
        int[] stay = {63, 63 - 4 - 16, 63 - 16, 63 - 4 - 16 - 32};
        for (int guards = 0; guards < 4; guards++) {
            x.set(3, 0, guards & 1);
            x.set(4, 0, guards >> 1);
            for (int who = 0; who < 6; who++) {
                due(6, "stays " + who + " by " + guards, x.told(who, 3), stay[guards] >> who & 1);
            }
        }
    }

    private static void feedAndTape() {
        AtTheDoor x = new AtTheDoor();
        due(7, "feed(-1)", x.feed(-1), BAD);
        due(7, "feed(256)", x.feed(256), BAD);
        due(7, "feed(0)", x.feed(0), 1);
        due(7, "feed(255)", x.feed(255), 2);
        for (int i = 3; i <= 160; i++) {
            due(7, "feed", x.feed(32), i);
        }
        due(7, "byte 161", x.feed(32), FULL);
        due(7, "byte 161 that is bad", x.feed(300), BAD);
        due(28, "tape", x.count(8), 160);
        due(8, "its fault", x.text(), -100);
        due(8, "it is empty then", x.count(8), 0);
        due(8, "nothing is fed", x.text(), -100);
        due(28, "texts", x.count(7), 1);
    }

    private static void textsAndRules() {
        AtTheDoor x = new AtTheDoor();
        due(9, "force(1)", x.force(1), BAD);
        due(9, "force(-1)", x.force(-1), BAD);
        due(9, "force(0)", x.force(0), 0);
        for (int i = 1; i < 6; i++) {
            due(8, "text", text(x, "comes " + i + ";worth 1;costs 1;"), i);
            due(28, "texts", x.count(7), i + 1);
        }
        due(8, "seventh", text(x, "comes 1;worth 1;costs 1;"), FULL);
        due(8, "the tape stays", x.count(8), 24);
        due(8, "the texts stay", x.count(7), 6);
        x.caller(0, 0);
        due(9, "force(5)", x.force(5), 0);
        due(9, "its weight", x.weight(0), 5);
        due(9, "force(6)", x.force(6), BAD);
        due(28, "the rule", x.count(9), 5);
        due(9, "force(0)", x.force(0), 5);
        due(9, "its weight", x.weight(0), 19);
    }

    private static void weightWhoOdds() {
        AtTheDoor x = door("comes 6 * (who + 1);worth 1;costs 0;", 0, 1, 2);
        due(10, "weight", x.weight(1), 12);
        due(10, "all", x.weight(NONE), 36);
        due(10, "who", x.weight(3), NO);
        due(10, "who", x.weight(-2), NO);
        due(10, "who", x.weight(LOW), NO);
        due(11, "who()", x.who(), 2);
        due(12, "odds", x.odds(1, 0), 1);
        due(12, "odds", x.odds(1, 1), 3);
        due(12, "part", x.odds(1, 2), NO);
        due(12, "part", x.odds(1, -1), NO);
        due(12, "who", x.odds(3, 0), NO);
        due(12, "who", x.odds(NONE, 0), NO);
        x.set(3, 0, 1);
        due(10, "who goes at once", x.weight(2), 0);
        due(12, "odds of 0", x.odds(2, 0), 0);
        due(12, "odds of 0", x.odds(2, 1), 1);
        due(11, "who()", x.who(), 1);
        x.hear(1);
        due(10, "weight behind a long", x.weight(0), 30);
        due(11, "who()", x.who(), 0);
        x = door("comes 4;worth 1;costs 0;", 1, 0, 0);
        due(11, "of like ones the first", x.who(), 0);
        x.hear(2);
        due(11, "of like ones the first", x.who(), 1);
        x = door("comes 0;worth 1;costs 0;", 0);
        due(11, "nobody", x.who(), NONE);
        due(12, "all is 0", x.odds(0, 1), NO);
        x = door("comes 999;worth 99;costs 99;", 2, 2, 2, 2, 2, 2, 2);
        for (int i = 0; i < 6; i++) {
            x.hear(2);
        }
        due(10, "the most of all", x.weight(NONE), 7L * 999 * 2985984);
        due(13, "the least gain", x.gain(20), -7L * 999 * 2985984 * 99 * 20);
    }

    private static void gainAndOpen() {
        AtTheDoor x = door("comes 2;worth 10 - who * 15;costs 1;", 0, 2);
        due(13, "gain(0)", x.gain(0), 20 - 10);
        due(13, "gain(1)", x.gain(1), 20 - 10 - 4);
        due(13, "gain(2)", x.gain(2), 20 - 10 - 8);
        due(13, "gain(3)", x.gain(3), 20 - 12);
        due(13, "gain(4)", x.gain(4), -16);
        due(13, "gain(20)", x.gain(20), -80);
        due(13, "gain(21)", x.gain(21), NO);
        due(13, "gain(-1)", x.gain(-1), NO);
        due(14, "open()", x.open(), 0);
        x = door("comes 2;worth 10 - who * 19;costs 1;", 0, 2);
        due(14, "open() once the other is gone", x.open(), 3);
        x = door("comes 2;worth 10;costs 0;", 0);
        due(14, "open() of like ones the first", x.open(), 0);
        x = door("comes 2;worth 0;costs 0;", 0);
        due(14, "a gain that is not above 0", x.open(), NONE);
        x = door("comes 1;worth 200;costs 200;", 0);
        due(13, "bounds above", x.gain(1), 0);
        x = door("comes 2000;worth -200;costs -200;", 0);
        due(13, "bounds", x.gain(1), 999 * -99);
        x = door("comes 1;worth 0;costs 10 * (sort = 0) + (who = 0) + signs;", 3, 3);
        x.hear(0);
        due(13, "costs are told of sort 0, who 0", x.gain(1), -18 * 12);
    }

    private static void peep() {
        AtTheDoor x = door("comes 1;worth 3 - who * 4;costs 0;", 0, 0);
        due(15, "peep", x.peep(0, 0), 1);
        due(15, "peep", x.peep(0, 1), 2);
        due(15, "what", x.peep(2, 0), NO);
        due(15, "what", x.peep(-1, 0), NO);
        due(15, "part", x.peep(0, 2), NO);
        due(15, "part", x.peep(1, -1), NO);
        x = door("comes 1;worth 3 - who * 8;costs 0;", 0, 0);
        due(15, "peep, the sum below 0", x.peep(0, 0), 3);
        due(15, "peep, the sum below 0", x.peep(0, 1), 2);
        // S: short 5 * 3 - 9 * 3, the others 5 * 3 - 1 * 3; A 36, B 24, C 20 + 12.
        x = door("comes 1;worth 3 - who * 6;costs 0;", 0, 1);
        due(15, "listen", x.peep(1, 0), 3);
        due(15, "listen", x.peep(1, 1), 8);
        // Behind one long the child's next nothing is 15: S 12 * (3 - 3 * 1 ..).
        x = door("comes 1;worth 3 - who * 6;costs 0;", 2, 4);
        due(15, "listen, alike", x.peep(1, 0), 0);
        due(15, "listen, alike", x.peep(1, 1), 1);
        x.hear(1);
        due(15, "listen at number 1", x.peep(1, 0), 0);
        // The quiet one is worth -3 now: nothing S is 2 * (2 * -3 + 15 * 3), the others 0.
        x = door("comes 1;worth who * 6 - 3;costs 0;", 2, 4);
        x.hear(1);
        due(15, "listen at number 1", x.peep(1, 0), 0);
        x = door("comes 1;worth who * 6 - 4;costs 0;", 2, 4);
        x.hear(1);
        // S: 2 * 2 * (2 - 4) = -8 twice, knock -48, nothing 2 * (15 * 2 - 2 * 4) = 44: A 44, B 0, C 98.
        due(15, "listen at number 1", x.peep(1, 0), 22);
        due(15, "listen at number 1", x.peep(1, 1), 49);
        for (int i = 1; i < 6; i++) {
            x.hear(0);
        }
        due(15, "listen with six", x.peep(1, 0), NO);
        due(15, "peep with six", x.peep(0, 1), 1);
        x = door("comes 0;worth 1;costs 0;", 0);
        due(15, "below the line is 0", x.peep(0, 0), NO);
        due(15, "below the line is 0", x.peep(1, 1), NO);
    }

    private static void tells() {
        AtTheDoor x = door("comes 5;worth 1;costs 0;", 0, 2);
        due(16, "a knock tells", x.tells(), 2);
        x.set(3, 0, 1);
        due(16, "with a dog none", x.tells(), NONE);
        x = door("comes 1 - signs;worth 1;costs 0;", 0, 2);
        due(16, "nobody is no other caller", x.tells(), NONE);
        x = door("comes signs;worth 1;costs 0;", 0, 2);
        due(16, "nobody is who", x.tells(), NONE);
        x = door("comes 1 + 9 * who * signs;worth 1;costs 0;", 0, 0);
        due(16, "it is told with one heard more", x.tells(), 0);
        x = door("comes 1 + 9 * who * (signs = 6);worth 1;costs 0;", 0, 0);
        for (int i = 0; i < 5; i++) {
            due(16, "not yet", x.tells(), NONE);
            x.hear(3);
        }
        due(16, "the sixth tells", x.tells(), 0);
        x.hear(3);
        due(16, "six are heard", x.tells(), NONE);
        due(16, "nobody comes", new AtTheDoor().tells(), NONE);
    }

    private static void guard() {
        AtTheDoor x = door("comes 2;worth 1 + who;costs 5;", 0, 2, 4, 5);
        due(17, "a dog", x.guard(0), -2 * (2 + 3));
        due(17, "a notice", x.guard(1), -2 * 3);
        x.set(4, 0, 1);
        due(17, "a dog by a notice", x.guard(0), -2 * (2 + 4));
        x.set(3, 0, 1);
        due(17, "a dog that is there", x.guard(0), -2 * (2 + 4));
        due(17, "a notice by a dog", x.guard(1), -2 * 4);
        due(17, "what", x.guard(2), NO);
        due(17, "what", x.guard(-1), NO);
        due(17, "the dog stays", x.count(5), 1);
        due(17, "the notice stays", x.count(6), 1);
    }

    private static void home() {
        AtTheDoor x = door("comes hour = 5 or hour = 6;worth 3;costs 0;", 0);
        due(18, "home(1, 0)", x.home(1, 0), 5);
        due(18, "home(1, 1)", x.home(1, 1), 3);
        due(18, "home(2, 0)", x.home(2, 0), 5);
        due(18, "home(2, 1)", x.home(2, 1), 6);
        due(18, "home(3, 0)", x.home(3, 0), 4);
        due(18, "home(24, 0)", x.home(24, 0), 0);
        due(18, "home(24, 1)", x.home(24, 1), 6);
        due(18, "n", x.home(0, 0), NO);
        due(18, "n", x.home(25, 0), NO);
        due(18, "n", x.home(LOW, 0), NO);
        due(18, "what", x.home(1, 2), NO);
        due(18, "what", x.home(1, -1), NO);
        due(18, "the hour stays", x.count(2), 9);
        x = door("comes 1;worth hour - 30;costs 0;", 0);
        due(18, "all below 0", x.home(2, 0), 22);
        due(18, "all below 0", x.home(2, 1), -15);
        x = door("comes 1;worth 1 + signs;costs 0;", 4, 0);
        x.hear(0);
        due(18, "what is heard doesn't weigh", x.home(3, 1), 12);
        x.set(4, 0, 1);
        due(18, "who goes at once doesn't count", x.home(3, 1), 6);
    }

    private static void cards() {
        AtTheDoor x = door("comes (hour = 5 or hour = 9 and who = 1) and day < 6;worth 1;costs 0;", 0, 4);
        x.set(4, 0, 1);
        row(x, 0, 0, 1);
        due(19, "cards", x.cards(0), 5);
        row(x, 0, 1, 0, 1);
        due(19, "cards", x.cards(0), 9);
        row(x, 0, 2, 1, 0);
        due(19, "not later", x.cards(0), NONE);
        row(x, 0, 2, 1, 1, 1);
        due(19, "too many", x.cards(0), NONE);
        row(x, 0, 2, 1, 1, 1, 2);
        due(19, "no caller, even behind too many", x.cards(0), BAD);
        row(x, 0, 2, -1);
        due(19, "no caller", x.cards(0), BAD);
        row(x, 0, 0);
        due(19, "none are told", x.cards(0), BAD);
        due(19, "missing", x.cards(1), NOTHING);
        due(19, "sheet", x.cards(4), BAD);
        due(19, "sheet", x.cards(-1), BAD);
        row(x, 0, 0, 1);
        x.set(1, 0, 6);
        due(19, "on this day none", x.cards(0), NONE);
        due(19, "the hour stays", x.count(2), 9);
        x = door("comes 1;worth 1;costs 0;", 0);
        x.sheet(0, 0, 24);
        due(19, "each hour one", x.cards(0), 23);
        x.sheet(0, 0, 25);
        due(19, "one more", x.cards(0), NONE);
    }

    private static void runsJudgeFits() {
        AtTheDoor x = door("comes 3 - signs;worth 1;costs 0;", 4, 0, 4);
        due(20, "runs()", x.runs(), 5);
        row(x, 0, 0, 0, 1, 2, 3);
        due(21, "judge", x.judge(0), 2);
        due(22, "fits", x.fits(0), 0);
        row(x, 0, 1, 0, 1);
        due(21, "judge", x.judge(0), NONE);
        due(22, "fits", x.fits(0), 7);
        x.hear(1);
        x.hear(1);
        x.hear(1);
        due(22, "just these", x.fits(0), 7);
        due(21, "just these", x.judge(0), NONE);
        due(22, "what is heard stays", x.count(1), 3);
        x.set(4, 0, 1);
        due(22, "who stays", x.fits(0), 2);
        due(20, "runs, at once even", x.runs(), 5);
        row(x, 1, 2);
        due(22, "no signs", x.fits(1), 2);
        due(21, "no signs", x.judge(1), NONE);
        x.sheet(1, 0, 6);
        due(21, "six", x.judge(1), 2);
        due(22, "six", x.fits(1), 0);
        x.sheet(1, 0, 7);
        due(21, "seven", x.judge(1), BAD);
        due(22, "seven", x.fits(1), BAD);
        row(x, 1, 2, 0, 0, 0, 4);
        due(21, "no sign", x.judge(1), BAD);
        due(22, "no sign", x.fits(1), BAD);
        row(x, 1, 2, -1);
        due(21, "no sign", x.judge(1), BAD);
        due(22, "no sign", x.fits(1), BAD);
        due(21, "missing", x.judge(2), NOTHING);
        due(22, "missing", x.fits(2), NOTHING);
        due(21, "sheet", x.judge(4), BAD);
        due(22, "sheet", x.fits(-1), BAD);
    }

    private static void laws() {
        AtTheDoor x = door("comes (who = 1) * 5;worth 1;costs 0;", 0, 0);
        text(x, "comes 0;worth 0;costs 0;");
        due(23, "laws(0)", x.laws(0), 1);
        due(23, "laws(1)", x.laws(1), 2);
        due(23, "laws(NONE)", x.laws(NONE), 4);
        due(23, "who", x.laws(2), BAD);
        due(23, "who", x.laws(-2), BAD);
        due(23, "the rule stays", x.count(9), 1);
    }

    private static void drawnAndOften() {
        AtTheDoor x = door("comes 1 - signs;worth 1 + signs * 10 + who;costs 0;", 0, 0);
        x.hear(0);
        // Each z of seed 0, its bit 8: the caller that is drawn of two.
        int z = 0;
        int ones = 0;
        for (int n = 1; n <= 30; n++) {
            z = z * 1103515245 + 12345;
            ones += z >>> 8 & 1;
            due(24, "drawn", x.drawn(0, n), n + ones);
            int common = gcd(ones, n);
            due(25, "often", x.often(0, n, 1, 0), ones / common);
            due(25, "often", x.often(0, n, 1, 1), n / common);
        }
        due(24, "n", x.drawn(0, 0), NO);
        due(24, "n", x.drawn(0, 31), NO);
        due(25, "n", x.often(0, 0, 0, 0), NO);
        due(25, "n", x.often(0, 31, 0, 0), NO);
        due(25, "who", x.often(0, 1, 2, 0), NO);
        due(25, "who", x.often(0, 1, NONE, 0), NO);
        due(25, "part", x.often(0, 1, 0, 2), NO);
        due(25, "part", x.often(0, 1, 0, -1), NO);
        due(24, "what is heard stays", x.count(1), 1);
        x = door("comes 0;worth 9;costs 0;", 0);
        due(24, "nobody", x.drawn(5, 30), 0);
        due(25, "nobody", x.often(5, 30, 0, 0), 0);
        due(25, "nobody", x.often(5, 30, 0, 1), 1);
    }

    private static int gcd(int a, int b) {
        return b == 0 ? a : gcd(b, a % b);
    }

    private static void imageAndBack() {
        AtTheDoor x = door("comes 1;worth 1;costs 1;", 3, 1);
        x.set(0, 0, 20);
        x.set(1, 0, 5);
        x.set(2, 0, 0);
        x.set(3, 0, 1);
        x.hear(2);
        x.hear(3);
        x.set(5, 1, 6);
        due(26, "image()", x.image(), 2);
        x.set(0, 0, 1);
        x.set(1, 0, 1);
        x.set(2, 0, 1);
        x.set(3, 0, 0);
        x.set(4, 0, 1);
        x.set(5, 1, 2);
        x.hush();
        x.hear(0);
        x.force(0);
        x.caller(5, 5);
        text(x, "comes 2;worth 2;costs 2;");
        x.feed(99);
        row(x, 2, 0, 3);
        for (int times = 0; times < 2; times++) {
            due(27, "back()", x.back(), 2);
            int[] counts = {2, 2, 20, 5, 0, 1, 0, 3, 1, 1, 2, 3, NONE, NONE, NONE, NONE};
            for (int i = 0; i < counts.length; i++) {
                due(27, "count(" + i + ")", x.count(i), counts[i]);
            }
            due(27, "number", x.told(1, 1), 6);
            due(27, "who came since is gone", x.told(2, 0), BAD);
            due(27, "sheets stay", x.cell(2, 0, 1), 1);
            x.hush();
            x.set(5, 1, 0);
            x.caller(0, 0);
        }
        due(26, "a later image", x.image(), 3);
        x.caller(0, 0);
        due(27, "a later image", x.back(), 3);
    }

    private static void count() {
        AtTheDoor x = new AtTheDoor();
        due(28, "what", x.count(16), BAD);
        due(28, "what", x.count(-1), BAD);
        due(28, "what", x.count(LOW), BAD);
        due(28, "what", x.count(HIGH), BAD);
    }

    private static void sheetAndCell() {
        AtTheDoor x = new AtTheDoor();
        due(29, "sheet", x.sheet(4, 0, 1), BAD);
        due(29, "sheet", x.sheet(-1, -1, 1), BAD);
        due(29, "sort", x.sheet(0, 3, 1), BAD);
        due(29, "sort", x.sheet(0, -2, 1), BAD);
        due(29, "n", x.sheet(0, 0, 41), BAD);
        due(29, "n", x.sheet(0, 0, -1), BELOW_ZERO);
        due(29, "n below 0, no such sort", x.sheet(0, 3, -1), BAD);
        due(29, "none was made", x.cell(0, 0, 0), NOTHING);
        due(29, "n", x.sheet(3, 2, 40), 1);
        due(30, "the last", x.cell(3, 39, 7), 1);
        due(30, "behind it", x.cell(3, 40, 7), OUTSIDE);
        due(30, "ahead", x.cell(3, -1, 7), OUTSIDE);
        due(30, "sheet", x.cell(4, 0, 7), BAD);
        due(30, "sheet", x.cell(-1, 0, 7), BAD);
        due(29, "missing, whatever n", x.sheet(3, -1, -5), 1);
        due(30, "missing", x.cell(3, 0, 7), NOTHING);
        due(29, "missing, whatever n", x.sheet(3, -1, 99), 1);
        due(29, "none", x.sheet(3, 1, 0), 1);
        due(30, "none", x.cell(3, 0, 7), OUTSIDE);
        row(x, 0, 0, 1, 2);
        x.caller(0, 0);
        x.sheet(0, 0, 2);
        due(29, "all 0 again", x.cards(0), 1);
        row(x, 0, 0, 256 + 2, -256 + 3, 511);
        due(30, "lowest 8 bits", x.hears(0, 0, 0, 2), 2);
        due(30, "lowest 8 bits", x.hears(0, 0, 2, 1), 0);
        row(x, 1, 1, 65536 + 1, -65536, 256);
        due(30, "lowest 16 bits", x.hears(1, 1, 0, 3), 2);
        row(x, 2, 2, 65536, 256, 1);
        due(30, "all bits", x.hears(2, 2, 0, 3), 1);
        int[] signs = {2, 3, 1, 0, 1, NONE};
        for (int i = 0; i < 6; i++) {
            due(30, "signs", x.count(10 + i), signs[i]);
        }
    }

    private static void copy() {
        AtTheDoor x = new AtTheDoor();
        row(x, 0, 1, 0, 1, 2, 3);
        due(31, "onto itself", x.copy(0, 0, 0, 1, 3), 3);
        due(31, "as they were", x.hears(0, 1, 0, 4), 4);
        int[] signs = {0, 0, 1, 2};
        for (int i = 0; i < 4; i++) {
            due(31, "as they were", x.count(10 + i), signs[i]);
        }
        x.hush();
        x.sheet(1, 1, 2);
        due(31, "to another", x.copy(0, 2, 1, 0, 2), 2);
        due(31, "to another", x.hears(1, 1, 0, 2), 2);
        due(31, "to another", x.count(10), 1);
        due(31, "to another", x.count(11), 2);
        due(31, "none", x.copy(0, 4, 1, 2, 0), 0);
        due(31, "none, outside", x.copy(0, 5, 1, 2, 0), OUTSIDE);
        due(31, "none, outside", x.copy(0, 4, 1, 3, 0), OUTSIDE);
        due(31, "outside", x.copy(0, 0, 1, 0, 3), OUTSIDE);
        due(31, "outside", x.copy(0, 3, 1, 0, 2), OUTSIDE);
        due(31, "outside", x.copy(0, -1, 1, 0, 1), OUTSIDE);
        due(31, "outside", x.copy(0, 0, 1, -1, 1), OUTSIDE);
        due(31, "n", x.copy(0, 0, 1, 0, -1), OUTSIDE);
        due(31, "n", x.copy(0, 0, 1, 0, LOW), OUTSIDE);
        due(31, "wide", x.copy(0, HIGH, 1, 0, HIGH), OUTSIDE);
        due(31, "wide", x.copy(0, 1, 1, 1, HIGH), OUTSIDE);
        due(31, "sheet", x.copy(4, 0, 1, 0, 1), BAD);
        due(31, "sheet", x.copy(2, 0, -1, 0, 1), BAD);
        due(31, "missing", x.copy(2, 0, 1, 0, 1), NOTHING);
        due(31, "missing", x.copy(1, 0, 2, 0, -1), NOTHING);
        x.sheet(2, 2, 1);
        due(31, "unlike", x.copy(0, 0, 2, 0, 1), UNLIKE);
        due(31, "unlike and outside", x.copy(0, 9, 2, 0, -1), UNLIKE);
    }

    private static void hears() {
        AtTheDoor x = new AtTheDoor();
        row(x, 0, 2, 3, 4, -1, 2, 1);
        due(32, "sheet", x.hears(4, 2, 0, 1), BAD);
        due(32, "sheet", x.hears(-1, 2, 0, 1), BAD);
        due(32, "sort", x.hears(0, 3, 0, 1), BAD);
        due(32, "sort", x.hears(0, -1, 0, 1), BAD);
        due(32, "sort of a missing one", x.hears(1, -1, 0, 1), BAD);
        due(32, "n", x.hears(0, 2, 0, 7), BAD);
        due(32, "n", x.hears(0, 2, 0, -1), BAD);
        due(32, "of another sort", x.hears(0, 0, 99, 1), UNLIKE);
        due(32, "missing", x.hears(1, 2, 99, 1), NOTHING);
        due(32, "none", x.hears(0, 2, 0, 0), 0);
        due(32, "outside", x.hears(0, 2, 5, 1), OUTSIDE);
        due(32, "outside", x.hears(0, 2, -1, 6), OUTSIDE);
        due(32, "outside", x.hears(0, 2, HIGH, 6), OUTSIDE);
        due(32, "outside", x.hears(0, 2, LOW, 6), OUTSIDE);
        due(32, "nothing was heard", x.count(1), 0);
        due(32, "others are left out", x.hears(0, 2, 0, 4), 2);
        due(32, "heard", x.count(10), 3);
        due(32, "heard", x.count(11), 2);
        due(32, "what stood ahead was heard", x.hears(0, 2, 3, 3), OUTSIDE);
        due(32, "heard", x.count(1), 4);
        due(32, "heard", x.count(13), 1);
        due(32, "these, not those ahead", x.hears(0, 2, 4, 1), 1);
        due(32, "until there is no room", x.hears(0, 2, 3, 2), 1);
        due(32, "heard", x.count(15), 2);
        due(32, "no room", x.hears(0, 2, 0, 5), 0);
        due(32, "outside, no room", x.hears(0, 2, 0, 6), OUTSIDE);
    }

    private static void taken() {
        AtTheDoor x = new AtTheDoor();
        for (int kind = 0; kind < 6; kind++) {
            x.caller(kind, kind + 2);
        }
        // Bits of the kinds that each kind is, or is under.
        int[] is = {1, 3, 5, 11, 21, 35};
        for (int who = 0; who < 6; who++) {
            for (int k = 0; k < 6; k++) {
                due(33, "taken(" + who + ", " + k + ")", x.taken(who, k), (is[who] >> k & 1) == 1 ? who + 2 : UNLIKE);
            }
        }
        due(33, "k", x.taken(0, 6), BAD);
        due(33, "k", x.taken(0, -1), BAD);
        due(33, "k of nobody", x.taken(9, 6), BAD);
        due(33, "nobody", x.taken(6, 0), NOTHING);
        due(33, "nobody", x.taken(-1, 0), NOTHING);
    }

    public static void main(String[] args) {
        newObject();
        set();
        caller();
        hearAndHush();
        toldSounds();
        toldWaitsAndStays();
        feedAndTape();
        textsAndRules();
        weightWhoOdds();
        gainAndOpen();
        peep();
        tells();
        guard();
        home();
        cards();
        runsJudgeFits();
        laws();
        drawnAndOften();
        imageAndBack();
        count();
        sheetAndCell();
        copy();
        hears();
        taken();
        System.out.println(wrong == 0 ? "all answers are as due" : wrong + " answers are not as due");
        if (wrong != 0) {
            System.exit(1);
        }
    }
}
