/** Promises 1 to 6: the house, callers, signs, and what is told of a caller. */
final class HouseBoundaries {
    private static final int NONE = Boundary.NONE, BAD = Boundary.BAD, FULL = Boundary.FULL;
    private static final int LOW = Boundary.LOW, HIGH = Boundary.HIGH;

    private final Boundary b;

    HouseBoundaries(Boundary b) {
        this.b = b;
    }

    void all() {
        newObject();
        house();
        set();
        callers();
        hear();
        hush();
        told();
        sounds();
        waits();
        stays();
    }

    private void newObject() {
        b.test(1, "Nobody comes.", () -> {
            AtTheDoor other = Houses.full();
            AtTheDoor x = new AtTheDoor();
            b.due("count(0)", x.count(0), 0);
            b.due("count(0) of another", other.count(0), 7);
            b.due("weight(NONE)", x.weight(NONE), 0);
            b.due("weight(0)", x.weight(0), Boundary.NO);
            b.due("who()", x.who(), NONE);
            b.due("told(0, 0)", x.told(0, 0), BAD);
            b.due("taken(0, 0)", x.taken(0, 0), Boundary.NOTHING);
            b.due("runs()", x.runs(), 0);
            b.due("the first who comes", x.caller(0, 0), 0);
        });
        b.test(1, "An object is used for at most 512 calls after it has been made; what later calls answer is free.", () -> {
            AtTheDoor x = new AtTheDoor();
            b.due("call 1, image()", x.image(), 0);
            for (int call = 2; call < 512; call += 2) {
                b.due("call " + call + ", caller", x.caller(call % 6, 1), 0);
                b.due("call " + (call + 1) + ", back", x.back(), 0);
            }
            b.due("call 512, count(0)", x.count(0), 0);
        });
    }

    /** What of the house may be least to most, and is so at first; count() tells it by its own number. */
    private void range(int what, int counted, int first, int most) {
        AtTheDoor x = new AtTheDoor();
        b.due("at first", x.count(counted), first);
        b.due("set to the least", x.set(what, 0, 0), first);
        b.due("the least", x.count(counted), 0);
        b.due("set to the most", x.set(what, 0, most), 0);
        b.due("the most", x.count(counted), most);
        for (int v : new int[] {-1, most + 1, LOW, HIGH}) {
            b.due("set to " + v, x.set(what, 0, v), BAD);
            b.due("behind " + v, x.count(counted), most);
        }
        b.due("the least again", x.set(what, 0, 0), most);
        b.due("below the least", x.set(what, 0, -1), BAD);
        b.due("it stays", x.count(counted), 0);
    }

    private void house() {
        b.test(2, "HOUR (0 .. 23; 9 at first)", () -> range(0, 2, 9, 23));
        b.test(2, "DAY (0 .. 6; 0 at first)", () -> range(1, 3, 0, 6));
        b.test(2, "AT HOME (1 or 0; 1 at first: whether there is light)", () -> range(2, 4, 1, 1));
        b.test(2, "DOG, NOTICE: there is one (1) or not (0, as at first).", () -> {
            range(3, 5, 0, 1);
            range(4, 6, 0, 1);
        });
    }

    private void set() {
        b.test(2, "HOUR (what 0), DAY (1), AT HOME (2), DOG (3), NOTICE (4; of does not matter), "
                + "NUMBER of a CALLER (5) becomes v: what it was.", () -> {
            int[] was = {9, 0, 1, 0, 0};
            int[] becomes = {10, 6, 0, 1, 1};
            for (int of : new int[] {LOW, -1, 0, 7, HIGH}) {
                AtTheDoor x = new AtTheDoor();
                for (int what = 0; what < 5; what++) {
                    b.due("set(" + what + ", " + of + ", ..)", x.set(what, of, becomes[what]), was[what]);
                    for (int other = 0; other < 5; other++) {
                        b.due("count(" + (2 + other) + ")", x.count(2 + other), other <= what ? becomes[other] : was[other]);
                    }
                    b.due("the same again", x.set(what, of, becomes[what]), becomes[what]);
                }
            }
            AtTheDoor x = new AtTheDoor();
            for (int who = 0; who < 7; who++) {
                x.caller(0, who);
            }
            b.due("the first's number", x.set(5, 0, 9), 0);
            b.due("the last's number", x.set(5, 6, 0), 6);
            b.due("the first's number", x.told(0, 1), 9);
            b.due("the second's number", x.told(1, 1), 1);
            b.due("the last's number", x.told(6, 1), 0);
        });
        b.test(2, "BAD.", () -> {
            for (int what : new int[] {-1, 6, LOW, HIGH}) {
                b.refused("set(" + what + ", 0, 0)", Houses::furnished, x -> x.set(what, 0, 0), BAD);
            }
            for (int who : new int[] {-1, 2, 6, 7, LOW, HIGH}) {
                b.refused("set(5, " + who + ", 0)", Houses::furnished, x -> x.set(5, who, 0), BAD);
            }
            for (int number : new int[] {-1, 10, LOW, HIGH}) {
                b.refused("set(5, 1, " + number + ")", Houses::furnished, x -> x.set(5, 1, number), BAD);
            }
            b.refused("set(5, 7, 0) with seven callers", Houses::full, x -> x.set(5, 7, 0), BAD);
            b.refused("set(0, 0, 24)", Houses::furnished, x -> x.set(0, 0, 24), BAD);
            AtTheDoor x = Houses.furnished();
            x.back();
            b.due("the number of one who is gone", x.set(5, 1, 0), BAD);
        });
    }

    private void callers() {
        b.test(3, "CALLERS (7 at most, numbered from 0)", () -> {
            AtTheDoor x = new AtTheDoor();
            for (int who = 0; who < 7; who++) {
                b.due("caller", x.caller(0, who), who);
                b.due("how many", x.count(0), who + 1);
                if (who == 2) {
                    x.image();
                }
            }
            b.due("the eighth", x.caller(0, 0), FULL);
            b.due("how many", x.count(0), 7);
            b.due("the last is as it was", x.told(6, 1), 6);
            x.back();
            b.due("where there is room again", x.caller(5, 8), 3);
            b.due("its number", x.told(3, 1), 8);
        });
        b.test(3, "have a KIND: 0 CALLER, 1 POST under CALLER, 2 QUIET under CALLER, 3 PARCEL under POST, "
                + "4 CHILD under QUIET, 5 PRESSING under POST;", () -> {
            AtTheDoor x = new AtTheDoor();
            for (int kind = 0; kind < 6; kind++) {
                b.due("caller(" + kind + ", 0)", x.caller(kind, 0), kind);
                b.due("its kind", x.told(kind, 0), kind);
            }
            for (int kind : new int[] {-1, 6, LOW, HIGH}) {
                b.due("caller(" + kind + ", 0)", x.caller(kind, 0), BAD);
            }
            b.due("how many", x.count(0), 6);
        });
        b.test(3, "a NUMBER (0 .. 9).", () -> {
            AtTheDoor x = new AtTheDoor();
            b.due("caller(0, 0)", x.caller(0, 0), 0);
            b.due("caller(0, 9)", x.caller(0, 9), 1);
            b.due("the least", x.told(0, 1), 0);
            b.due("the most", x.told(1, 1), 9);
            for (int number : new int[] {-1, 10, LOW, HIGH}) {
                b.due("caller(0, " + number + ")", x.caller(0, number), BAD);
            }
            b.due("how many", x.count(0), 2);
            b.due("set to the most", x.set(5, 0, 9), 0);
            b.due("above it", x.set(5, 0, 10), BAD);
            b.due("set to the least", x.set(5, 0, 0), 9);
            b.due("below it", x.set(5, 0, -1), BAD);
        });
        b.test(3, "A CALLER: its number.", () -> {
            AtTheDoor x = new AtTheDoor();
            b.due("the first", x.caller(5, 9), 0);
            b.due("the same again is another", x.caller(5, 9), 1);
            x.set(5, 1, 3);
            b.due("the first's number", x.told(0, 1), 9);
        });
        b.test(3, "BAD; FULL.", () -> {
            b.refused("caller(6, 0)", Houses::furnished, x -> x.caller(6, 0), BAD);
            b.refused("caller(-1, 0)", Houses::furnished, x -> x.caller(-1, 0), BAD);
            b.refused("caller(0, 10)", Houses::furnished, x -> x.caller(0, 10), BAD);
            b.refused("caller(0, -1)", Houses::furnished, x -> x.caller(0, -1), BAD);
            b.refused("an eighth", Houses::full, x -> x.caller(5, 9), FULL);
            b.refused("an eighth of no kind", Houses::full, x -> x.caller(6, 0), BAD);
            b.refused("an eighth of no number", Houses::full, x -> x.caller(0, 10), BAD);
        });
    }

    private void hear() {
        b.test(4, "HEARD: a row of SIGNS (6 at most; none at first):", () -> {
            AtTheDoor x = new AtTheDoor();
            b.due("at first", x.count(1), 0);
            b.due("at first", Houses.heard(x), "......");
            for (int i = 1; i <= 6; i++) {
                b.due("hear", x.hear(3), i);
            }
            b.due("a seventh", x.hear(0), FULL);
            b.due("how many", x.count(1), 6);
            b.due("which", Houses.heard(x), "333333");
        });
        b.test(4, "0 short, 1 long, 2 knock, 3 nothing.", () -> {
            AtTheDoor x = new AtTheDoor();
            for (int sign = 0; sign < 4; sign++) {
                b.due("hear(" + sign + ")", x.hear(sign), sign + 1);
            }
            for (int sign : new int[] {-1, 4, LOW, HIGH}) {
                b.due("hear(" + sign + ")", x.hear(sign), BAD);
            }
            b.due("which", Houses.heard(x), "0123..");
        });
        b.test(4, "A SIGN is HEARD behind the others: how many are.", () -> {
            AtTheDoor x = new AtTheDoor();
            b.due("the first", x.hear(2), 1);
            b.due("which", Houses.heard(x), "2.....");
            b.due("the second", x.hear(0), 2);
            b.due("which", Houses.heard(x), "20....");
            Houses.hearing(x, 1, 3, 3);
            b.due("the sixth", x.hear(1), 6);
            b.due("which", Houses.heard(x), "201331");
        });
        b.test(4, "BAD; FULL.", () -> {
            b.refused("hear(4)", Houses::furnished, x -> x.hear(4), BAD);
            b.refused("hear(-1)", Houses::furnished, x -> x.hear(-1), BAD);
            b.refused("a seventh", Houses::full, x -> x.hear(3), FULL);
            b.refused("a seventh that is none", Houses::full, x -> x.hear(4), BAD);
            b.refused("a seventh that is none", Houses::full, x -> x.hear(-1), BAD);
        });
    }

    private void hush() {
        b.test(5, "No SIGNS are HEARD any more: how many were.", () -> {
            AtTheDoor x = Houses.coming("1", 0);
            b.due("hush() of none", x.hush(), 0);
            Houses.hearing(x, 1, 2, 3, 0, 1, 2);
            b.due("hush() of six", x.hush(), 6);
            b.due("how many are left", x.count(1), 0);
            b.due("which", Houses.heard(x), "......");
            b.due("weight(0)", x.weight(0), 1);
            b.due("again", x.hush(), 0);
            for (int i = 1; i <= 6; i++) {
                b.due("there is room again", x.hear(0), i);
            }
        });
    }

    private void told() {
        b.test(6, "Of a CALLER: 0 KIND, 1 NUMBER, 2 WAITS now, 3 STAYS now;", () -> {
            AtTheDoor x = new AtTheDoor();
            for (int who = 0; who < 7; who++) {
                x.caller(who == 6 ? 3 : who, 9 - who);
            }
            b.due("the first's kind", x.told(0, 0), 0);
            b.due("the last's kind", x.told(6, 0), 3);
            b.due("the first's number", x.told(0, 1), 9);
            b.due("the last's number", x.told(6, 1), 3);
            b.due("waits at 9", x.told(6, 2), 8);
            x.set(0, 0, 12);
            b.due("waits at 12", x.told(6, 2), 4);
            b.due("stays", x.told(2, 3), 1);
            x.set(3, 0, 1);
            b.due("stays with a dog", x.told(2, 3), 0);
        });
        b.test(6, "4 .. 7 SOUNDS for SIGN what less 4 as the next number.", () -> {
            AtTheDoor x = new AtTheDoor();
            x.caller(5, 0);
            for (int heard = 0; heard <= 6; heard++) {
                int[] due = {9, 1 + heard, 1, 1};
                for (int g = 0; g < 4; g++) {
                    b.due("told(0, " + (4 + g) + ") with " + heard, x.told(0, 4 + g), due[g]);
                }
                x.hear(1);
            }
        });
        b.test(6, "BAD.", () -> {
            for (int what : new int[] {-1, 8, LOW, HIGH}) {
                b.refused("told(0, " + what + ")", Houses::furnished, x -> x.told(0, what), BAD);
            }
            for (int who : new int[] {-1, 2, 6, 7, LOW, HIGH}) {
                b.refused("told(" + who + ", 0)", Houses::furnished, x -> x.told(who, 0), BAD);
            }
            b.refused("told(7, 0) with seven", Houses::full, x -> x.told(7, 0), BAD);
            AtTheDoor x = Houses.furnished();
            x.back();
            b.due("one who is gone", x.told(1, 0), BAD);
        });
    }

    private static int sounds(int kind, int number, int g, int i) {
        AtTheDoor x = new AtTheDoor();
        x.caller(kind, number);
        for (int k = 0; k < i; k++) {
            x.hear(0);
        }
        return x.told(0, 4 + g);
    }

    /** At place i the signs 0 .. 3 sound so. */
    private void sound(int kind, int number, int i, int... due) {
        for (int g = 0; g < 4; g++) {
            b.due("sounds of kind " + kind + ", number " + number + ", sign " + g + " at " + i, sounds(kind, number, g, i), due[g]);
        }
    }

    private void sounds() {
        b.test(6, "SOUNDS (how often SIGN g is number i, from 0, of what it gives): CALLER: 5;", () -> {
            for (int i = 0; i <= 6; i++) {
                sound(0, 0, i, 5, 5, 5, 5);
                sound(0, 9, i, 5, 5, 5, 5);
            }
        });
        b.test(6, "POST: 9, if g is 0, else 4 less than a CALLER;", () -> {
            for (int i = 0; i <= 6; i++) {
                sound(1, 0, i, 9, 1, 1, 1);
                sound(1, 9, i, 9, 1, 1, 1);
            }
        });
        b.test(6, "QUIET: 12, if g is 2, else half (cut) of a CALLER's;", () -> {
            for (int i = 0; i <= 6; i++) {
                sound(2, 0, i, 2, 2, 12, 2);
                sound(2, 9, i, 2, 2, 12, 2);
            }
        });
        b.test(6, "PARCEL: NUMBER more than a POST, if i is 1 and g is 1, else as a POST;", () -> {
            sound(3, 9, 0, 9, 1, 1, 1);
            sound(3, 0, 1, 9, 1, 1, 1);
            sound(3, 1, 1, 9, 2, 1, 1);
            sound(3, 9, 1, 9, 10, 1, 1);
            for (int i = 2; i <= 6; i++) {
                sound(3, 9, i, 9, 1, 1, 1);
            }
        });
        b.test(6, "CHILD: 15, if g is 3 and i is above 0, else as a QUIET;", () -> {
            sound(4, 9, 0, 2, 2, 12, 2);
            for (int i = 1; i <= 6; i++) {
                sound(4, 9, i, 2, 2, 12, 15);
            }
        });
        b.test(6, "PRESSING: i more than a POST, if g is 1, else as a POST.", () -> {
            for (int i = 0; i <= 6; i++) {
                sound(5, 9, i, 9, 1 + i, 1, 1);
            }
        });
        b.test(6, "(SOUNDS 0 at least, in the end.)", () -> {
            for (int kind = 0; kind < 6; kind++) {
                for (int number = 0; number < 10; number++) {
                    for (int place = 0; place < 28; place++) {
                        b.due("0 at least", sounds(kind, number, place % 4, place / 4) >= 0 ? 0 : 1, 0);
                    }
                }
            }
        });
        b.test(6, "Quotients are cut toward 0.", () -> {
            b.due("half of 5", sounds(2, 0, 0, 0), 2);
            b.due("2 by 3 more than 3", waits(1, 2, 9), 3);
            b.due("8 by 3 more than 3", waits(1, 8, 9), 5);
        });
    }

    private static int waits(int kind, int number, int hour) {
        AtTheDoor x = new AtTheDoor();
        x.caller(kind, number);
        x.set(0, 0, hour);
        return x.told(0, 2);
    }

    private void waitsAlways(int kind, int number, int due) {
        for (int hour = 0; hour < 24; hour++) {
            b.due("waits of kind " + kind + ", number " + number + " at " + hour, waits(kind, number, hour), due);
        }
    }

    private void waits() {
        b.test(6, "WAITS (minutes, in HOUR h): CALLER: 3;", () -> {
            waitsAlways(0, 0, 3);
            waitsAlways(0, 9, 3);
        });
        b.test(6, "POST: NUMBER by 3 (cut) more than a CALLER;", () -> {
            int[] due = {3, 3, 3, 4, 4, 4, 5, 5, 5, 6};
            for (int number = 0; number < 10; number++) {
                waitsAlways(1, number, due[number]);
            }
        });
        b.test(6, "QUIET: 1 less than a CALLER;", () -> {
            waitsAlways(2, 0, 2);
            waitsAlways(2, 9, 2);
        });
        b.test(6, "PARCEL: twice a POST's, if h is below 12, else as a POST;", () -> {
            for (int hour = 0; hour < 24; hour++) {
                b.due("number 0 at " + hour, waits(3, 0, hour), hour < 12 ? 6 : 3);
                b.due("number 2 at " + hour, waits(3, 2, hour), hour < 12 ? 6 : 3);
                b.due("number 9 at " + hour, waits(3, 9, hour), hour < 12 ? 12 : 6);
            }
        });
        b.test(6, "CHILD: 0;", () -> {
            waitsAlways(4, 0, 0);
            waitsAlways(4, 9, 0);
        });
        b.test(6, "PRESSING: 5 more than a POST.", () -> {
            waitsAlways(5, 0, 8);
            waitsAlways(5, 2, 8);
            waitsAlways(5, 9, 11);
        });
    }

    /** Whether it stays by neither, a dog, a notice, both. */
    private void stay(int kind, int... due) {
        for (int guards = 0; guards < 4; guards++) {
            AtTheDoor x = new AtTheDoor();
            x.caller(kind, 9);
            x.set(3, 0, guards & 1);
            x.set(4, 0, guards >> 1);
            b.due("kind " + kind + ", dog " + (guards & 1) + ", notice " + (guards >> 1), x.told(0, 3), due[guards]);
        }
    }

    private void stays() {
        b.test(6, "STAYS (1: it rings, 0: it goes at once): CALLER, POST, PARCEL: 1;", () -> {
            stay(0, 1, 1, 1, 1);
            stay(1, 1, 1, 1, 1);
            stay(3, 1, 1, 1, 1);
        });
        b.test(6, "QUIET: 0, if there is a DOG, else as a CALLER;", () -> stay(2, 1, 0, 1, 0));
        b.test(6, "CHILD: 0, if there is a NOTICE, else as a QUIET;", () -> stay(4, 1, 0, 0, 0));
        b.test(6, "PRESSING: 0, if there are both, else as a POST.", () -> stay(5, 1, 1, 1, 0));
    }
}
