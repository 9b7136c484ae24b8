/** Promises 7 to 9 and what a TEXT is: which there are, where the others have their FAULT, what they tell. */
public final class TextsTest {
    private static int wrong = 0;

    private static void due(String call, long got, long want) {
        if (got != want) {
            wrong++;
            System.out.println(call + " answered " + got + ", due is " + want);
        }
    }

    private static int text(AtTheDoor x, String text) {
        for (int i = 0; i < text.length(); i++) {
            x.feed(text.charAt(i));
        }
        return x.text();
    }

    private static void faultAt(int place, String text) {
        AtTheDoor x = new AtTheDoor();
        due("text of '" + text + "'", text(x, text), -100 - place);
        due("bytes behind '" + text + "'", x.count(8), 0);
        due("texts behind '" + text + "'", x.count(7), 1);
    }

    /** The expression stands alone behind comes, six bytes into the text. */
    private static void faultIn(int place, String expression) {
        faultAt(6 + place, "comes " + expression + ";worth 0;costs 0;");
    }

    private static AtTheDoor ruled(String text) {
        AtTheDoor x = new AtTheDoor();
        due("text of '" + text + "'", text(x, text), 1);
        x.force(1);
        x.caller(0, 0);
        x.caller(3, 0);
        return x;
    }

    private static void tells(long want, String expression) {
        due(expression, ruled("comes " + expression + ";worth 0;costs 0;").weight(0), want);
    }

    private static void ends() {
        faultAt(0, "");
        faultAt(3, "  \n");
        faultAt(5, "comes");
        faultAt(7, "comes 1");
        faultAt(9, "comes 1 ;");
        faultAt(10, "comes 1 + ");
        faultAt(8, "comes (1");
        faultAt(9, "comes not");
        faultAt(23, "comes 1;worth 2;costs 3");
        faultAt(25, "comes 1;worth 2;costs 3; 1");
        faultAt(24, "comes 1;worth 2;costs 3;;");
        faultAt(25, "comes 1;worth 2;costs 3; comes");
        faultAt(24, "comes 1;worth 2;costs 3;$");
        faultAt(24, "comes 1;worth 2;costs 3;x");
        faultAt(24, "comes 1;worth 2;costs 3;12345");
        faultAt(0, "worth 1;comes 1;costs 1;");
        faultAt(8, "comes 1;costs 1;");
        faultAt(0, "1;");
        faultAt(0, ";");
        faultAt(0, "comescomes");
        faultAt(2, "\n Comes 1;");
    }

    private static void tokens() {
        faultIn(0, "A");
        faultIn(0, "$");
        faultIn(0, "hours");
        faultIn(0, "hou");
        faultIn(0, "hourz");
        faultIn(0, "ahour");
        faultIn(4, "hour`");
        faultIn(4, "hour{");
        faultIn(1, "1:");
        faultIn(0, "/1");
        faultIn(0, "x");
        faultIn(0, "12345");
        faultIn(0, "00000");
        faultIn(4, "hour2");
        faultIn(2, "1 2");
        faultIn(2, "1 hour");
        faultIn(1, "1\t");
        faultIn(1, "1\r");
        faultIn(1, "1" + (char) 0);
        faultIn(1, "1" + (char) 255);
        faultIn(1, "1/2");
        faultIn(1, "1>2");
        faultIn(2, "1 _");
        faultAt(0, "" + (char) 9);
        faultIn(0, "comes");
        faultIn(2, "1 worth");
    }

    private static void places() {
        faultIn(3, "1<2<3");
        faultIn(3, "1=2<3");
        faultIn(10, "not 1 < 2 = 3");
        faultIn(4, "1 + not 1");
        faultIn(4, "1 * not 1");
        faultIn(4, "1 < not 1");
        faultIn(2, "- not 1");
        faultIn(5, "hour day");
        faultIn(2, "(1");
        faultIn(1, "1)");
        faultIn(1, "()");
        faultIn(3, "(1 hour)");
        faultIn(0, "");
        faultIn(4, "1 or");
        faultIn(5, "1 and");
        faultIn(3, "1 +");
        faultIn(0, "* 1");
        faultIn(0, "+ 1");
        faultIn(0, "< 1");
        faultIn(0, "= 1");
        faultIn(0, "or 1");
        faultIn(0, "and 1");
        faultIn(0, ")");
        faultIn(5, "1 or or 1");
        faultIn(4, "1 + + 1");
        faultIn(2, "1 not 1");
        faultIn(2, "1 (2)");
    }

    private static void depths() {
        tells(1, "(((((1)))))");
        faultIn(5, "((((((1))))))");
        tells(0, "not not not not not 1");
        faultIn(20, "not not not not not not 1");
        tells(0, "-----1");
        faultIn(5, "------1");
        faultIn(7, "(not(-(-1)))");
        tells(2, "(((((1)))))+(((((1)))))");
        tells(1, "not not not not not 0 and not not not not not 0");
        faultIn(20, "not not not not not (1)");
        faultIn(24, "not not not not not 1 < (1)");
        faultIn(24, "not not not not not 1 < -1");
        tells(2, "-(-(1))*--(2)");
        faultIn(5, "-----(2)");
        tells(1, "-----1*(((((0-1)))))");
        tells(1, "(((-(0-1))))");
        faultIn(5, "((((-(0-1)))))");
        tells(1, "(not(not(1)))");
        faultIn(9, "(not(not((1))))");
        tells(1, "not (not 1) and (1)");
    }

    private static void values() {
        tells(14, "2 + 3 * 4");
        tells(20, "(2+3)*4");
        tells(5, "10 - 3 - 2");
        tells(9, "10 - (3 - 2)");
        tells(1, "7 or 0");
        tells(1, "0 or 7");
        tells(0, "0 or 0");
        tells(1, "5 and 3");
        tells(0, "5 and 0");
        tells(0, "not 5");
        tells(1, "not 0");
        tells(1, "not not 5");
        tells(1, "1 < 2");
        tells(0, "2 < 2");
        tells(1, "2 = 2");
        tells(0, "2 = 3");
        tells(1, "not 1 = 2");
        tells(1, "-1 < 0");
        tells(1, "1 or 0 and 0");
        tells(1, "0 and 0 or 1");
        tells(0, "not 0 and 0");
        tells(1, "1 + 1 = 2");
        tells(6, "-2*-3");
        tells(5, "--5");
        tells(5, "3 - -2");
        tells(3, "1 + (1 < 2) + (0 or 9)");
        tells(999, "999");
        tells(999, "1000");
        tells(0, "0 - 5");
        tells(8, "0008");
        tells(1, "9999*9999*9999 < 0");
        tells(1, "9999*9999*43 = 417*9999 + 3164");
        tells(1, "1and2");
        tells(3, "\n3\n ");
    }

    private static void bounds() {
        due("worth above", ruled("comes 1;worth 100;costs 0;").gain(0), 198);
        due("worth below", ruled("comes 1;worth -100;costs 0;").gain(0), -198);
        due("costs above", ruled("comes 1;worth 0;costs 100;").gain(1), -198);
        due("costs below", ruled("comes 1;worth 0;costs -1;").gain(1), 0);
    }

    private static void names() {
        AtTheDoor x = ruled("comes 100 * (hour = 4) + 50 * day + 20 * home + 3 * sort + signs + 200 * who;worth 0;costs 0;");
        due("names", x.weight(0), 20);
        due("names", x.weight(1), 200 + 20 + 9);
        x.set(0, 0, 4);
        x.set(1, 0, 2);
        x.set(2, 0, 0);
        due("names", x.weight(0), 100 + 100);
        due("names", x.weight(1), 200 + 100 + 100 + 9);
        x.hear(0);
        x.hear(0);
        due("names", x.weight(0), 202 * 25);
        due("names", x.weight(1), 411 * 81);
    }

    private static void close() {
        AtTheDoor x = ruled("comes1;worth2;costs3;");
        due("gain(1)", x.gain(1), 4 - 6);
        StringBuilder b = new StringBuilder("comes 0");
        while (b.length() < 160 - 18 - 1) {
            b.append("+1");
        }
        b.append(";worth 0;costs 0 ;");
        while (b.length() < 160) {
            b.append(' ');
        }
        due("as long as can be", ruled(b.toString()).weight(0), (160 - 18 - 7) / 2);
    }

    private static void deepest() {
        // Each ( opens behind the most that can wait for it: or, and, <, +, *.
        String open = "0or 1and 0<0+1*(";
        StringBuilder b = new StringBuilder("comes ");
        for (int i = 0; i < 5; i++) {
            b.append(open);
        }
        b.append("0or 1and 0<0+1*7)))));worth 0;costs 0;");
        due("the deepest", ruled(b.toString()).weight(0), 1);
    }

    public static void main(String[] args) {
        ends();
        tokens();
        places();
        depths();
        values();
        bounds();
        names();
        close();
        deepest();
        System.out.println(wrong == 0 ? "all answers are as due" : wrong + " answers are not as due");
        if (wrong != 0) {
            System.exit(1);
        }
    }
}
