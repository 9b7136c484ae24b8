/** Promises 7 to 9, and what a TEXT is: its size, its tokens, its faults, its bounds. */
final class TextBoundaries {
    private static final int BAD = Boundary.BAD, FULL = Boundary.FULL, LOW = Boundary.LOW, HIGH = Boundary.HIGH;
    // 2147483647, the most that an int holds; a NUMBER has four digits at most.
    private static final String MOST = "9999*9999*21+9999*4790+8416";

    private final Boundary b;

    TextBoundaries(Boundary b) {
        this.b = b;
    }

    void all() {
        feed();
        text();
        force();
        tokens();
        blanks();
        grammar();
        ones();
        ints();
        faults();
        depths();
        bounds();
        names();
    }

    private void faultAt(int place, String text) {
        AtTheDoor x = new AtTheDoor();
        b.due("text of '" + text + "'", Houses.text(x, text), -100 - place);
        b.due("the tape behind '" + text + "'", x.count(8), 0);
        b.due("texts behind '" + text + "'", x.count(7), 1);
    }

    /** The expression stands alone behind comes, six bytes into the text. */
    private void faultIn(int place, String expression) {
        faultAt(6 + place, "comes " + expression + ";worth 0;costs 0;");
    }

    private void tells(long want, String expression) {
        b.due(expression, Houses.coming(expression, 0).weight(0), want);
    }

    private static String longest(int size) {
        StringBuilder t = new StringBuilder("comes 1;worth 1;costs 0");
        while (t.length() + 3 <= size) {
            t.append("+1");
        }
        while (t.length() + 1 < size) {
            t.append(' ');
        }
        return t.append(';').toString();
    }

    private void feed() {
        b.test(7, "A TEXT is read from THE TAPE (160 bytes at most).", () -> {
            String t = longest(160);
            AtTheDoor x = new AtTheDoor();
            for (int i = 0; i < 160; i++) {
                b.due("byte " + (i + 1), x.feed(t.charAt(i)), i + 1);
            }
            b.due("byte 161", x.feed('x'), FULL);
            b.due("how many", x.count(8), 160);
            b.due("text()", x.text(), 1);
            x.force(1);
            x.caller(0, 0);
            b.due("its last bytes count", x.gain(1), 1 - (160 - 24) / 2);
        });
        b.test(7, "A byte (0 .. 255) comes behind THE TAPE: how many it has.", () -> {
            AtTheDoor x = new AtTheDoor();
            b.due("at first", x.count(8), 0);
            b.due("feed(0)", x.feed(0), 1);
            b.due("feed(255)", x.feed(255), 2);
            b.due("feed(-1)", x.feed(-1), BAD);
            b.due("feed(256)", x.feed(256), BAD);
            b.due("how many", x.count(8), 2);
        });
        b.test(7, "BAD; FULL.", () -> {
            for (int letter : new int[] {-1, 256, LOW, HIGH}) {
                b.refused("feed(" + letter + ")", Houses::furnished, x -> x.feed(letter), BAD);
                b.refused("feed(" + letter + ") with no room", Houses::full, x -> x.feed(letter), BAD);
            }
            b.refused("feed(0) with no room", Houses::full, x -> x.feed(0), FULL);
            b.refused("feed(255) with no room", Houses::full, x -> x.feed(255), FULL);
        });
    }

    private void text() {
        b.test(8, "THE TAPE, which is empty then, is a TEXT: its number;", () -> {
            AtTheDoor x = new AtTheDoor();
            for (int i = 1; i < 6; i++) {
                b.due("text", Houses.text(x, "comes " + i + ";worth 1;costs 1;"), i);
                b.due("the tape is empty", x.count(8), 0);
            }
            b.due("the first byte of another", x.feed('c'), 1);
            AtTheDoor y = new AtTheDoor();
            y.caller(0, 0);
            for (int i = 1; i < 6; i++) {
                b.due("the longest", Houses.text(y, longest(160 - 2 * i)), i);
                y.force(i);
                b.due("what it costs", y.gain(1), 1 - (136 - 2 * i) / 2);
            }
            AtTheDoor z = new AtTheDoor();
            b.due("one that ends too early", Houses.text(z, "comes hour"), -110);
            b.due("nothing of it is left", Houses.text(z, "comes hou"), -106);
            b.due("nothing of it is left", Houses.text(z, "comes"), -105);
        });
        b.test(8, "-100 less the place of its FAULT.", () -> {
            AtTheDoor x = new AtTheDoor();
            b.due("nothing is on the tape", x.text(), -100);
            b.due("the first byte", Houses.text(x, "?"), -100);
            b.due("the tape is empty", x.count(8), 0);
            b.due("the second byte", Houses.text(x, " ?"), -101);
            b.due("the last byte of all", Houses.text(x, "comes 1;worth 1;costs 1;" + " ".repeat(135) + "?"), -259);
            b.due("behind the last of all", Houses.text(x, "comes 1;" + " ".repeat(152)), -260);
            b.due("no text has come", x.count(7), 1);
            b.due("one that has none", Houses.text(x, "comes 1;worth 1;costs 1;"), 1);
        });
        b.test(8, "FULL: no TEXT more has room (THE TAPE stays).", () -> {
            AtTheDoor x = Houses.full();
            b.due("text()", x.text(), FULL);
            b.due("the tape stays", x.count(8), 160);
            b.due("the texts stay", x.count(7), 6);
            b.due("it has no room still", x.feed(32), FULL);
            AtTheDoor y = new AtTheDoor();
            for (int i = 1; i < 6; i++) {
                b.due("text", Houses.text(y, "comes 1;worth 1;costs 1;"), i);
            }
            b.due("an empty tape", y.text(), FULL);
            y.feed('?');
            b.due("a tape with a fault", y.text(), FULL);
            b.due("it stays", y.feed('?'), 2);
        });
        b.test(8, "There are 6 TEXTS at most, TEXT 0 with them.", () -> {
            AtTheDoor x = new AtTheDoor();
            b.due("at first", x.count(7), 1);
            for (int i = 1; i < 6; i++) {
                b.due("text", Houses.text(x, "comes " + i + ";worth 1;costs 1;"), i);
            }
            b.due("how many", x.count(7), 6);
            b.due("one more", Houses.text(x, "comes 6;worth 1;costs 1;"), FULL);
            b.due("how many", x.count(7), 6);
            x.caller(0, 0);
            for (int i = 1; i < 6; i++) {
                x.force(i);
                b.due("weight by text " + i, x.weight(0), i);
            }
            x.force(0);
            b.due("weight by text 0", x.weight(0), 19);
        });
    }

    private void force() {
        b.test(9, "A TEXT is THE RULE: which was.", () -> {
            AtTheDoor x = Houses.full();
            b.due("force(5), the last", x.force(5), 0);
            b.due("the rule", x.count(9), 5);
            b.due("the same again", x.force(5), 5);
            b.due("force(0), the first", x.force(0), 5);
            b.due("the rule", x.count(9), 0);
        });
        b.test(9, "BAD.", () -> {
            for (int text : new int[] {-1, 2, 6, LOW, HIGH}) {
                b.refused("force(" + text + ")", Houses::furnished, x -> x.force(text), BAD);
            }
            b.refused("force(6) with six", Houses::full, x -> x.force(6), BAD);
            AtTheDoor x = new AtTheDoor();
            b.due("no text has come", x.force(1), BAD);
            Houses.text(x, "comes 1;");
            b.due("it had a fault", x.force(1), BAD);
        });
        b.test(9, "TEXT 0, at first THE RULE, is: comes 10 + hour ; worth 5 - sort * 2 ; costs 1 ;", () -> {
            AtTheDoor x = new AtTheDoor();
            b.due("at first the rule", x.count(9), 0);
            x.caller(0, 0);
            b.due("weight at 9", x.weight(0), 19);
            x.set(0, 0, 0);
            b.due("weight at 0", x.weight(0), 10);
            b.due("gain(0) of a caller", x.gain(0), 50);
            b.due("gain(1), less what a minute costs", x.gain(1), 40);
            x.set(0, 0, 23);
            b.due("weight at 23", x.weight(0), 33);
            x.caller(5, 0);
            b.due("gain(0) with one pressing", x.gain(0), 33 * 5 - 33 * 5);
        });
    }

    private void tokens() {
        b.test(8, "TOKENS, each as long as can be:", () -> {
            faultIn(0, "hourday");
            faultIn(0, "notnot 1");
            faultAt(0, "comescomes 1;");
            tells(12, "12");
            tells(0, "not1");
            tells(1, "0or1and2");
            b.due("no blanks", Houses.text(new AtTheDoor(), "comes1;worth2;costs3;"), 1);
        });
        b.test(8, "WORDS (a .. z),", () -> {
            tells(1, "day = 0 and 1");
            faultIn(0, "ahour");
            faultIn(0, "hourz");
            faultIn(4, "hour`");
            faultIn(4, "hour{");
            faultIn(4, "hourA");
            faultIn(4, "hourZ");
            faultIn(4, "hour" + (char) 228);
            faultIn(0, "Hour");
            faultAt(0, "COMES 1;");
        });
        b.test(8, "NUMBERS (digits, 4 at most),", () -> {
            tells(9, "0009");
            tells(1, "9999=9998+1");
            tells(90, "90");
            tells(123, "123");
            faultIn(0, "10000");
            faultIn(0, "00001");
            faultIn(1, "1/");
            faultIn(1, "1:");
        });
        b.test(8, "SIGNS ( ) ; + - * < = ;", () -> {
            tells(3, "(1)+2");
            tells(1, "3-2");
            tells(6, "3*2");
            tells(1, "3<4");
            tells(0, "3=4");
            faultIn(1, "1)");
            for (char c : "!\"#$%&',./:>?@[\\]^_`{|}~".toCharArray()) {
                faultIn(0, c + "1");
                faultIn(1, "1" + c + "1");
            }
        });
    }

    private void blanks() {
        b.test(8, "blanks (32, 10) may stand between.", () -> {
            AtTheDoor x = new AtTheDoor();
            b.due("many", Houses.text(x, " \n comes\n \n1 \n; \nworth\n2\n; costs 3 ; \n"), 1);
            faultIn(2, "1 2");
            faultIn(0, "ho ur");
            for (int c : new int[] {0, 9, 11, 12, 13, 31, 127, 160, 255}) {
                faultIn(1, "1" + (char) c);
                faultAt(0, (char) c + "comes 1;worth 1;costs 1;");
                faultAt(24, "comes 1;worth 1;costs 1;" + (char) c);
            }
        });
    }

    private void grammar() {
        b.test(8, "TEXT: comes E ; worth E ; costs E ;", () -> {
            faultAt(0, "worth 1;costs 1;");
            faultAt(8, "comes 1;costs 1;");
            faultAt(16, "comes 1;worth 1;comes 1;");
            faultAt(6, "comes ;worth 1;costs 1;");
            faultAt(8, "comes 1 worth 1;costs 1;");
            faultAt(24, "comes 1;worth 1;costs 1 ");
            faultAt(24, "comes 1;worth 1;costs 1;;");
            faultAt(24, "comes 1;worth 1;costs 1;comes 1;worth 1;costs 1;");
        });
        b.test(8, "E: AND { or AND }.", () -> {
            tells(0, "0");
            tells(1, "0 or 0 or 2");
            tells(1, "1 or 0 and 0");
            faultIn(0, "or 1");
            faultIn(4, "1 or");
            faultIn(5, "1 or or 1");
        });
        b.test(8, "AND: NOT { and NOT }.", () -> {
            tells(1, "1 and 2 and 3");
            tells(0, "1 and 2 and 0");
            tells(0, "not 0 and 0");
            faultIn(0, "and 1");
            faultIn(5, "1 and");
            faultIn(6, "1 and and 1");
        });
        b.test(8, "NOT: not NOT, or SUM, perhaps < or = and a SUM.", () -> {
            tells(1, "not not 5");
            tells(0, "not 1 < 2");
            tells(1, "1 + 1 = 2");
            faultIn(6, "1 < 2 < 3");
            faultIn(6, "1 = 2 = 3");
            faultIn(6, "1 < 2 = 3");
            faultIn(10, "not 1 < 2 < 3");
            faultIn(4, "1 < not 1");
            faultIn(3, "not");
            faultIn(2, "1 not 1");
        });
        b.test(8, "SUM: TERM { + or - TERM }.", () -> {
            tells(5, "10 - 3 - 2");
            tells(9, "10 - 3 + 2");
            tells(14, "2 + 3 * 4");
            faultIn(0, "+ 1");
            faultIn(3, "1 +");
            faultIn(4, "1 + + 1");
            faultIn(4, "1 + not 1");
        });
        b.test(8, "TERM: ONE { * ONE }.", () -> {
            tells(24, "2 * 3 * 4");
            faultIn(0, "* 1");
            faultIn(3, "1 *");
            faultIn(4, "1 * * 1");
            faultIn(4, "1 * not 1");
        });
    }

    private void ones() {
        b.test(8, "ONE: a NUMBER, a NAME, - ONE, ( E ).", () -> {
            tells(5, "3 - -2");
            tells(5, "--5");
            tells(9, "- - hour");
            tells(1, "(0 or 7)");
            tells(20, "(2 + 3) * 4");
            faultIn(0, ")");
            faultIn(1, "()");
            faultIn(2, "(1");
            faultIn(1, "1)");
            faultIn(2, "- not 1");
            faultIn(1, "-");
            faultIn(2, "1 (2)");
            faultIn(2, "1 hour");
        });
        b.test(8, "NAMES are hour day sort home signs who;", () -> {
            for (String name : new String[] {"hour", "day", "sort", "home", "signs", "who"}) {
                b.due(name, Houses.text(new AtTheDoor(), "comes " + name + ";worth " + name + ";costs " + name + ";"), 1);
                faultIn(0, name + "s");
                faultIn(0, name.substring(1));
                faultIn(0, name.substring(0, name.length() - 1));
            }
        });
        b.test(8, "comes, worth, costs, or, and, not are KEYS.", () -> {
            for (String key : new String[] {"comes", "worth", "costs", "or", "and"}) {
                faultIn(0, key);
                faultIn(4, "1 + " + key);
            }
            faultIn(4, "1 + not");
            faultIn(2, "1 comes");
            faultIn(2, "1 worth");
            faultIn(2, "1 costs");
        });
    }

    private void ints() {
        b.test(8, "An E is an int (32 bits, wrapping):", () -> {
            tells(0, MOST + "<0");
            tells(1, MOST + "+1<0");
            tells(1, MOST + "+1=0-(" + MOST + ")-1");
            tells(1, "0<-(" + MOST + ")-2");
            tells(1, "-(" + MOST + "+1)=" + MOST + "+1");
            tells(1, "(" + MOST + ")*2=-2");
            tells(1, "(" + MOST + "+1)*2=0");
            tells(1, "9999*9999*43=417*9999+3164");
            tells(999, MOST);
            tells(0, MOST + "+1");
        });
        b.test(8, "of or, and, not, <, = 1 or 0 (what is not 0 is true).", () -> {
            tells(1, "7 or 9");
            tells(1, "-1 or 0");
            tells(1, "0 or -1");
            tells(5, "5 + (0 or 0)");
            tells(5, "5 + (0 and 0)");
            tells(5, "5 + (1 < 0)");
            tells(5, "5 + (1 = 0)");
            tells(0, "0 or 0");
            tells(1, "7 and 9");
            tells(1, "-1 and -2");
            tells(1, "2 and 1");
            tells(0, "7 and 0");
            tells(0, "0 and 7");
            tells(0, "not 7");
            tells(0, "not -1");
            tells(1, "not 0");
            tells(1, "-1 < 0");
            tells(0, "0 < 0");
            tells(0, "1 < 0");
            tells(1, "5 = 5");
            tells(0, "5 = 6");
            tells(0, "5 = -5");
        });
    }

    private void faults() {
        b.test(8, "FAULT: the place of the first byte of the first TOKEN that can't stand there", () -> {
            faultIn(2, "1 hour ? $");
            faultIn(2, "1 worth");
            faultIn(7, "1 <    = 2");
            faultAt(25, "comes 1;worth 1;costs 1; hour");
            faultAt(3, "\n  ;");
        });
        b.test(8, "(the text's size, if it ends too early),", () -> {
            faultAt(0, "");
            faultAt(3, " \n ");
            faultAt(5, "comes");
            faultAt(7, "comes 1");
            faultAt(8, "comes 1;");
            faultAt(11, "comes 1;  \n");
            faultAt(9, "comes not");
            faultAt(8, "comes (1");
            faultAt(23, "comes 1;worth 1;costs 1");
            faultAt(160, "comes 1" + " ".repeat(153));
            faultAt(160, " ".repeat(153) + "comes 1");
            faultAt(160, "comes" + " ".repeat(151) + "hour");
        });
        b.test(8, "also of a byte that begins none,", () -> {
            faultAt(0, "?");
            faultIn(0, "?");
            faultIn(1, "1?");
            faultIn(1, "1" + (char) 0);
            faultIn(1, "1" + (char) 255);
            faultAt(24, "comes 1;worth 1;costs 1;?");
            faultIn(2, "1 2 ?");
        });
        b.test(8, "a WORD that is neither KEY nor NAME,", () -> {
            faultIn(0, "x");
            faultIn(2, "1 xor 1");
            for (String word : new String[] {"hour", "day", "sort", "home", "signs", "who", "not"}) {
                for (int i = 0; i < word.length(); i++) {
                    faultIn(0, word.substring(0, i) + "x" + word.substring(i + 1) + " 1");
                }
            }
            for (String word : new String[] {"or", "and"}) {
                for (int i = 0; i < word.length(); i++) {
                    faultIn(2, "1 " + word.substring(0, i) + "x" + word.substring(i + 1) + " 1");
                }
            }
            for (int i = 0; i < 5; i++) {
                faultAt(0, "comes".substring(0, i) + "x" + "comes".substring(i + 1) + " 1;worth 1;costs 1;");
                faultAt(8, "comes 1;" + "worth".substring(0, i) + "x" + "worth".substring(i + 1) + " 1;costs 1;");
                faultAt(16, "comes 1;worth 1;" + "costs".substring(0, i) + "x" + "costs".substring(i + 1) + " 1;");
            }
            faultAt(0, "come 1;");
            faultAt(0, "x");
            faultAt(24, "comes 1;worth 1;costs 1;x");
            faultAt(8, "comes 1;worths 1;costs 1;");
        });
        b.test(8, "a NUMBER that is too long,", () -> {
            faultIn(0, "12345");
            faultIn(4, "1 + 00000");
            faultIn(0, "1".repeat(100));
            faultIn(2, "1 12345");
            faultAt(24, "comes 1;worth 1;costs 1;12345");
            tells(1, "1234 = 1234");
        });
    }

    private void depths() {
        b.test(8, "a ( , a not, a - ahead of a ONE while 5 of these are open", () -> {
            tells(1, "(((((1)))))");
            faultIn(5, "((((((1))))))");
            tells(0, "not not not not not 1");
            faultIn(20, "not not not not not not 1");
            tells(1, "0------1");
            faultIn(5, "------1");
            faultIn(7, "0-------1");
            tells(1, "(not -(not 0 - 1))");
            faultIn(5, "(((((-1)))))");
            faultIn(5, "(((((not 1)))))");
            faultIn(5, "-----(1)");
            faultIn(20, "not not not not not (1)");
            faultIn(20, "not not not not not -1");
            tells(1, "(((((2-1)))))");
            tells(2, "(((((2*hour<day or 1)))))+(((((1)))))");
        });
        b.test(8, "(a ( till its ) , not and - till what they belong to ends).", () -> {
            tells(3, "(((((1)))))+(((((2)))))");
            tells(4, "((((1)+(1))+(1))+(1))");
            tells(1, "-----1*-----1");
            tells(1, "-1*(((((0-1)))))");
            tells(1, "(not 1)+(((((1)))))");
            tells(1, "not 1 or (((((1)))))");
            tells(1, "not not not not not 0 and not not not not not 0");
            tells(1, "not not not not not 1 < 1 and (((((1)))))");
            faultIn(5, "-(((((1)))))");
            faultIn(24, "not not not not not 1 < (1)");
            faultIn(24, "not not not not not 1 < -1");
            faultIn(24, "not not not not not 1 + (1)");
            faultIn(12, "not 1 < (((((1)))))");
            faultIn(12, "not 1 = (((((1)))))");
            tells(1, "not 1 < ((((1))))");
        });
    }

    private void bounds() {
        b.test(10, "comes: how often it comes (0 .. 999, else the bound).", () -> {
            tells(0, "0-9999");
            tells(0, "0-1");
            tells(0, "0");
            tells(1, "1");
            tells(998, "998");
            tells(999, "999");
            tells(999, "1000");
            tells(999, "9999");
        });
        b.test(13, "worth: what opening to it is worth (-99 .. 99, else the bound).", () -> {
            int[] told = {-9999, -100, -99, -98, 0, 98, 99, 100, 9999};
            int[] due = {-99, -99, -99, -98, 0, 98, 99, 99, 99};
            for (int i = 0; i < told.length; i++) {
                b.due("worth " + told[i], Houses.ruled("comes 1;worth " + told[i] + ";costs 0;", 0).gain(0), due[i]);
            }
            b.due("the most and one more", Houses.ruled("comes 1;worth " + MOST + "+1;costs 0;", 0).gain(0), -99);
        });
        b.test(13, "costs (sort, who 0): what each minute behind the door costs (0 .. 99, else the bound).", () -> {
            int[] told = {-9999, -1, 0, 1, 98, 99, 100, 9999};
            int[] due = {0, 0, 0, 1, 98, 99, 99, 99};
            for (int i = 0; i < told.length; i++) {
                b.due("costs " + told[i], Houses.ruled("comes 1;worth 0;costs " + told[i] + ";", 0).gain(1), -due[i]);
            }
            b.due("sort and who are 0", Houses.ruled("comes 1;worth 0;costs 10*sort+who+1;", 5, 4, 3).gain(1), -3);
            AtTheDoor x = Houses.ruled("comes 1;worth 0;costs hour+10*day+20*home+30*signs;", 0);
            b.due("the others are as they are", x.gain(1), -29);
            x.hear(0);
            x.set(1, 0, 1);
            b.due("the others are as they are", x.gain(1), -5 * (9 + 10 + 20 + 30));
        });
    }

    private void names() {
        b.test(10, "Of a CALLER: hour: HOUR; day: DAY; sort: its KIND; home: AT HOME; "
                + "signs: how many are HEARD; who: its number.", () -> {
            AtTheDoor x = Houses.coming("hour", 0);
            x.set(0, 0, 0);
            b.due("hour 0", x.weight(0), 0);
            x.set(0, 0, 23);
            b.due("hour 23", x.weight(0), 23);
            x = Houses.coming("day", 0);
            b.due("day 0", x.weight(0), 0);
            x.set(1, 0, 6);
            b.due("day 6", x.weight(0), 6);
            x = Houses.coming("home", 0);
            b.due("home 1", x.weight(0), 1);
            x.set(2, 0, 0);
            b.due("home 0", x.weight(0), 0);
            x = Houses.coming("1+sort*10+who*100", 5, 4, 3, 2, 1, 0, 5);
            for (int who = 0; who < 7; who++) {
                b.due("sort, who of " + who, x.weight(who), 1 + (who == 6 ? 5 : 5 - who) * 10 + who * 100);
            }
            x = Houses.coming("signs", 0);
            long each = 1;
            for (int signs = 0; signs <= 6; signs++) {
                b.due("signs " + signs, x.weight(0), signs * each);
                x.hear(3);
                each *= 5;
            }
        });
    }
}
