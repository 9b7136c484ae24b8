/** What the document says of refusals, whichever call it is (promise 0 stands for all of them). */
final class RefusalBoundaries {
    private static final int NONE = Boundary.NONE, BAD = Boundary.BAD, STATE = Boundary.STATE, FULL = Boundary.FULL;
    private static final int NOTHING = Boundary.NOTHING, OUTSIDE = Boundary.OUTSIDE, UNLIKE = Boundary.UNLIKE;
    private static final int BELOW_ZERO = Boundary.BELOW_ZERO, HIGH = Boundary.HIGH;
    private static final long NO = Boundary.NO;

    private final Boundary b;

    RefusalBoundaries(Boundary b) {
        this.b = b;
    }

    void all() {
        numbers();
        order();
        nothingChanges();
    }

    private void numbers() {
        b.test(0, "NONE is -1; NO, where a long is answered, -4611686018427387904.", () -> {
            b.due("NONE", AtTheDoor.NONE, -1);
            b.due("NO", AtTheDoor.NO, -4611686018427387904L);
            b.due("nobody is who", new AtTheDoor().who(), -1);
            b.due("weight(0) of nobody", new AtTheDoor().weight(0), -4611686018427387904L);
        });
        b.test(0, "BAD (-2: a number is none such or not as told), STATE (-3), FULL (-4);", () -> {
            b.due("BAD", AtTheDoor.BAD, -2);
            b.due("STATE", AtTheDoor.STATE, -3);
            b.due("FULL", AtTheDoor.FULL, -4);
            b.due("a number that is none such", new AtTheDoor().hear(4), -2);
            b.due("no image", new AtTheDoor().back(), -3);
            b.due("a seventh sign", Houses.full().hear(0), -4);
        });
        b.test(0, "the host's: -11 nothing where something is asked, -12 a place outside, "
                + "-13 a thing of another sort or KIND, -14 a size below 0.", () -> {
            b.due("a cell of a missing sheet", new AtTheDoor().cell(0, 0, 0), -11);
            b.due("a place outside", Houses.furnished().cell(0, 2, 0), -12);
            b.due("another sort", Houses.furnished().hears(0, 1, 0, 1), -13);
            b.due("another kind", Houses.furnished().taken(0, 2), -13);
            b.due("a size below 0", new AtTheDoor().sheet(0, 0, -1), -14);
        });
    }

    /** Each call would be refused for two reasons. */
    private void order() {
        b.test(0, "Refusals, the first that the call's words name;", () -> {
            AtTheDoor x = Houses.full();
            b.due("caller: BAD, FULL", x.caller(6, 0), BAD);
            b.due("hear: BAD, FULL", x.hear(4), BAD);
            b.due("feed: BAD, FULL", x.feed(256), BAD);
            b.due("sheet: BAD, -14", x.sheet(4, 0, -1), BAD);
            b.due("sheet: BAD, -14", x.sheet(0, 3, -1), BAD);
            b.due("cell: BAD, -12", x.cell(4, -1, 0), BAD);
            b.due("cell: -11, -12", x.cell(0, -1, 0), NOTHING);
            b.due("copy: BAD, -11", x.copy(0, 0, 4, 0, 0), BAD);
            b.due("copy: BAD, -11", x.copy(4, 0, 0, 0, 0), BAD);
            b.due("copy: -11, -12", x.copy(0, 0, 1, 0, -1), NOTHING);
            b.due("hears: BAD, -11", x.hears(0, 3, 0, 0), BAD);
            b.due("hears: BAD, -11", x.hears(0, 0, 0, 7), BAD);
            b.due("hears: -11, -12", x.hears(0, 0, -1, 1), NOTHING);
            b.due("taken: BAD, -11", x.taken(7, 6), BAD);
            x.sheet(1, 1, 7);
            b.due("copy: -11, -13", x.copy(0, 0, 1, 0, 0), NOTHING);
            x.sheet(2, 2, 1);
            b.due("copy: -13, -12", x.copy(1, 7, 2, 0, 1), UNLIKE);
            b.due("copy: -13, -12", x.copy(1, 0, 2, 0, -1), UNLIKE);
            b.due("hears: BAD, -13", x.hears(1, 0, 0, -1), BAD);
            b.due("hears: -13, -12", x.hears(1, 0, 7, 1), UNLIKE);
            b.due("cards: -11 ahead of its second BAD", x.cards(0), NOTHING);
            b.due("judge: -11 ahead of its second BAD", x.judge(0), NOTHING);
            b.due("fits: -11 ahead of its second BAD", x.fits(0), NOTHING);
            x.sheet(1, 0, 40);
            x.cell(1, 39, 7);
            b.due("cards: BAD, NONE", x.cards(1), BAD);
        });
    }

    private void nothingChanges() {
        b.test(0, "they change nothing:", () -> {
            houseAndTexts();
            questions();
            host();
        });
    }

    private void houseAndTexts() {
        b.refused("set", Houses::furnished, x -> x.set(0, 0, 24), BAD);
        b.refused("caller", Houses::furnished, x -> x.caller(6, 0), BAD);
        b.refused("caller", Houses::full, x -> x.caller(0, 0), FULL);
        b.refused("hear", Houses::furnished, x -> x.hear(4), BAD);
        b.refused("hear", Houses::full, x -> x.hear(3), FULL);
        b.refused("told", Houses::furnished, x -> x.told(2, 0), BAD);
        b.refused("feed", Houses::furnished, x -> x.feed(256), BAD);
        b.refused("feed", Houses::full, x -> x.feed(32), FULL);
        b.refused("text", Houses::full, x -> x.text(), FULL);
        b.refused("force", Houses::furnished, x -> x.force(2), BAD);
        b.refused("back", Houses::full, x -> x.back(), STATE);
        b.refused("count", Houses::furnished, x -> x.count(16), BAD);
    }

    private void questions() {
        b.refused("weight", Houses::furnished, x -> x.weight(2), NO);
        b.refused("odds", Houses::furnished, x -> x.odds(2, 0), NO);
        b.refused("gain", Houses::furnished, x -> x.gain(21), NO);
        b.refused("peep", Houses::furnished, x -> x.peep(2, 0), NO);
        b.refused("peep", Houses::full, x -> x.peep(1, 0), NO);
        b.refused("tells", Houses::full, x -> x.tells(), NONE);
        b.refused("guard", Houses::furnished, x -> x.guard(2), NO);
        b.refused("home", Houses::furnished, x -> x.home(25, 0), NO);
        b.refused("cards", Houses::furnished, x -> x.cards(2), BAD);
        b.refused("judge", Houses::furnished, x -> x.judge(3), NOTHING);
        b.refused("fits", Houses::furnished, x -> x.fits(4), BAD);
        b.refused("laws", Houses::furnished, x -> x.laws(2), BAD);
        b.refused("drawn", Houses::furnished, x -> x.drawn(1, 31), NO);
        b.refused("often", Houses::furnished, x -> x.often(1, 1, 2, 0), NO);
    }

    private void host() {
        b.refused("sheet", Houses::furnished, x -> x.sheet(4, 0, 1), BAD);
        b.refused("sheet", Houses::furnished, x -> x.sheet(0, 3, 1), BAD);
        b.refused("sheet", Houses::furnished, x -> x.sheet(0, 0, 41), BAD);
        b.refused("sheet", Houses::furnished, x -> x.sheet(0, 0, -1), BELOW_ZERO);
        b.refused("cell", Houses::furnished, x -> x.cell(4, 0, 3), BAD);
        b.refused("cell", Houses::furnished, x -> x.cell(3, 0, 3), NOTHING);
        b.refused("cell", Houses::furnished, x -> x.cell(0, 2, 3), OUTSIDE);
        b.refused("copy", Houses::furnished, x -> x.copy(0, 0, 4, 0, 1), BAD);
        b.refused("copy", Houses::furnished, x -> x.copy(0, 0, 3, 0, 1), NOTHING);
        b.refused("copy", Houses::furnished, x -> x.copy(2, 0, 0, 0, 1), UNLIKE);
        b.refused("copy", Houses::furnished, x -> x.copy(2, 0, 2, 1, 3), OUTSIDE);
        b.refused("hears", Houses::furnished, x -> x.hears(0, 0, 0, 7), BAD);
        b.refused("hears", Houses::furnished, x -> x.hears(2, 0, 0, 1), UNLIKE);
        b.refused("hears", Houses::furnished, x -> x.hears(3, 0, 0, 1), NOTHING);
        b.refused("hears, nothing stood ahead", Houses::furnished, x -> x.hears(0, 0, HIGH, 6), OUTSIDE);
        b.refused("taken", Houses::furnished, x -> x.taken(0, 6), BAD);
        b.refused("taken", Houses::furnished, x -> x.taken(2, 0), NOTHING);
        b.refused("taken", Houses::furnished, x -> x.taken(1, 1), UNLIKE);
    }
}
