import java.util.ArrayList;
import java.util.Arrays;
import java.util.List;
import java.util.Random;

/** Many drawn runs of calls, each answer compared with a second, plainer reading of the document. */
public final class ModelRunsTest {
    private static final int RUNS = 2500, CALLS = 512;
    private static final long NO = -4611686018427387904L;

    /** The document written down again, without regard to room or speed. */
    private static final class Model {
        int[] house = {9, 0, 1, 0, 0};
        int rule = 0;
        List<Integer> heard = new ArrayList<>();
        List<int[]> callers = new ArrayList<>();
        List<Integer> tape = new ArrayList<>();
        List<List<List<String>>> texts = new ArrayList<>();
        int[] sorts = {-1, -1, -1, -1};
        int[][] sheets = new int[4][];
        int[] keptHouse = null;
        int keptRule;
        List<Integer> keptHeard;
        List<Integer> keptNumbers;

        Model() {
            for (char c : "comes 10 + hour ; worth 5 - sort * 2 ; costs 1 ;".toCharArray()) {
                feed(c);
            }
            text();
        }

        int sounds(int who, int g, int i) {
            int number = callers.get(who)[1];
            switch (callers.get(who)[0]) {
                case 0: return 5;
                case 1: return g == 0 ? 9 : 1;
                case 2: return g == 2 ? 12 : 2;
                case 3: return g == 0 ? 9 : g == 1 && i == 1 ? 1 + number : 1;
                case 4: return g == 3 && i > 0 ? 15 : g == 2 ? 12 : 2;
                default: return g == 0 ? 9 : g == 1 ? 1 + i : 1;
            }
        }

        int waits(int who) {
            int post = 3 + callers.get(who)[1] / 3;
            switch (callers.get(who)[0]) {
                case 0: return 3;
                case 1: return post;
                case 2: return 2;
                case 3: return house[0] < 12 ? post + post : post;
                case 4: return 0;
                default: return post + 5;
            }
        }

        boolean stays(int who) {
            switch (callers.get(who)[0]) {
                case 2: return house[3] == 0;
                case 4: return house[3] == 0 && house[4] == 0;
                case 5: return house[3] == 0 || house[4] == 0;
                default: return true;
            }
        }

        int clamp(int low, int high, int v) {
            return v < low ? low : v > high ? high : v;
        }

        int comes(int who) {
            return clamp(0, 999, eval(texts.get(rule).get(0), callers.get(who)[0], who));
        }

        int worth(int who) {
            return clamp(-99, 99, eval(texts.get(rule).get(1), callers.get(who)[0], who));
        }

        int costs() {
            return clamp(0, 99, eval(texts.get(rule).get(2), 0, 0));
        }

        /** Splits at what binds least, outside of all ( ). */
        int eval(List<String> e, int sort, int who) {
            int at = splitAt(e, "or", "or");
            if (at >= 0) {
                return eval(e.subList(0, at), sort, who) != 0 | eval(e.subList(at + 1, e.size()), sort, who) != 0 ? 1 : 0;
            }
            at = splitAt(e, "and", "and");
            if (at >= 0) {
                return eval(e.subList(0, at), sort, who) != 0 & eval(e.subList(at + 1, e.size()), sort, who) != 0 ? 1 : 0;
            }
            if (e.get(0).equals("not")) {
                return eval(e.subList(1, e.size()), sort, who) == 0 ? 1 : 0;
            }
            at = splitAt(e, "<", "=");
            if (at >= 0) {
                int a = eval(e.subList(0, at), sort, who);
                int b = eval(e.subList(at + 1, e.size()), sort, who);
                return (e.get(at).equals("<") ? a < b : a == b) ? 1 : 0;
            }
            at = splitAt(e, "+", "-");
            if (at >= 0) {
                int a = eval(e.subList(0, at), sort, who);
                int b = eval(e.subList(at + 1, e.size()), sort, who);
                return e.get(at).equals("+") ? a + b : a - b;
            }
            at = splitAt(e, "*", "*");
            if (at >= 0) {
                return eval(e.subList(0, at), sort, who) * eval(e.subList(at + 1, e.size()), sort, who);
            }
            return evalOne(e, sort, who);
        }

        int evalOne(List<String> e, int sort, int who) {
            switch (e.get(0)) {
                case "-": return -eval(e.subList(1, e.size()), sort, who);
                case "(": return eval(e.subList(1, e.size() - 1), sort, who);
                case "hour": return house[0];
                case "day": return house[1];
                case "home": return house[2];
                case "sort": return sort;
                case "who": return who;
                case "signs": return heard.size();
                default: return Integer.parseInt(e.get(0));
            }
        }

        int splitAt(List<String> e, String one, String two) {
            int depth = 0;
            for (int i = e.size() - 1; i > 0; i--) {
                String t = e.get(i);
                depth += t.equals(")") ? 1 : t.equals("(") ? -1 : 0;
                boolean binary = e.get(i - 1).equals(")") || isOperand(e.get(i - 1));
                if (depth == 0 && binary && (t.equals(one) || t.equals(two))) {
                    return i;
                }
            }
            return -1;
        }

        static boolean isOperand(String t) {
            return Character.isDigit(t.charAt(0)) || List.of("hour", "day", "sort", "home", "signs", "who").contains(t);
        }

        long weight(int who) {
            long w = stays(who) ? comes(who) : 0;
            for (int i = 0; i < heard.size(); i++) {
                w *= sounds(who, heard.get(i), i);
            }
            return w;
        }

        long all() {
            long sum = 0;
            for (int i = 0; i < callers.size(); i++) {
                sum += weight(i);
            }
            return sum;
        }

        int who() {
            if (all() == 0) {
                return -1;
            }
            int best = 0;
            for (int i = 1; i < callers.size(); i++) {
                best = weight(i) > weight(best) ? i : best;
            }
            return best;
        }

        long gain(int t) {
            long sum = 0;
            for (int i = 0; i < callers.size(); i++) {
                sum += waits(i) >= t ? weight(i) * worth(i) : 0;
            }
            return sum - all() * costs() * t;
        }

        boolean is(int who) {
            return who >= 0 && who < callers.size();
        }

        static long lowest(long a, long b, int part) {
            if (b == 0 || part < 0 || part > 1) {
                return NO;
            }
            long x = a;
            long y = b;
            while (y != 0) {
                long z = x % y;
                x = y;
                y = z;
            }
            return part == 0 ? a / x : b / x;
        }

        int set(int what, int of, int v) {
            int[] most = {23, 6, 1, 1, 1, 9};
            if (what < 0 || what > 5 || v < 0 || v > most[what] || (what == 5 && !is(of))) {
                return -2;
            }
            int[] row = what == 5 ? callers.get(of) : house;
            int i = what == 5 ? 1 : what;
            int was = row[i];
            row[i] = v;
            return was;
        }

        int caller(int kind, int number) {
            if (kind < 0 || kind > 5 || number < 0 || number > 9) {
                return -2;
            }
            if (callers.size() == 7) {
                return -4;
            }
            callers.add(new int[] {kind, number});
            return callers.size() - 1;
        }

        int hear(int sign) {
            if (sign < 0 || sign > 3) {
                return -2;
            }
            if (heard.size() == 6) {
                return -4;
            }
            heard.add(sign);
            return heard.size();
        }

        int hush() {
            int n = heard.size();
            heard.clear();
            return n;
        }

        int told(int who, int what) {
            if (!is(who) || what < 0 || what > 7) {
                return -2;
            }
            if (what < 2) {
                return callers.get(who)[what];
            }
            return what == 2 ? waits(who) : what == 3 ? (stays(who) ? 1 : 0) : sounds(who, what - 4, heard.size());
        }

        int feed(int letter) {
            if (letter < 0 || letter > 255) {
                return -2;
            }
            if (tape.size() == 160) {
                return -4;
            }
            tape.add(letter);
            return tape.size();
        }

        int text() {
            if (texts.size() == 6) {
                return -4;
            }
            StringBuilder b = new StringBuilder();
            for (int c : tape) {
                b.append((char) c);
            }
            tape.clear();
            List<List<String>> parts = new ArrayList<>();
            int fault = new Checker(b.toString()).check(parts);
            if (fault >= 0) {
                return -100 - fault;
            }
            texts.add(parts);
            return texts.size() - 1;
        }

        int force(int text) {
            if (text < 0 || text >= texts.size()) {
                return -2;
            }
            int was = rule;
            rule = text;
            return was;
        }

        int open() {
            int best = 0;
            for (int t = 1; t <= 20; t++) {
                best = gain(t) > gain(best) ? t : best;
            }
            return gain(best) > 0 ? best : -1;
        }

        long peep(int what, int part) {
            if (what == 0) {
                long a = 0;
                long b = 0;
                for (int i = 0; i < callers.size(); i++) {
                    a += worth(i) > 0 ? weight(i) * worth(i) : 0;
                    b += weight(i) * worth(i);
                }
                return lowest(a - (b < 0 ? 0 : b), all(), part);
            }
            if (what != 1 || heard.size() == 6) {
                return NO;
            }
            long a = 0;
            long b = 0;
            long c = 0;
            for (int g = 0; g < 4; g++) {
                long s = 0;
                for (int i = 0; i < callers.size(); i++) {
                    s += weight(i) * sounds(i, g, heard.size()) * worth(i);
                    c += weight(i) * sounds(i, g, heard.size());
                }
                a += s > 0 ? s : 0;
                b += s;
            }
            return lowest(a - (b < 0 ? 0 : b), c, part);
        }

        int tells() {
            int is = who();
            if (heard.size() == 6 || is < 0) {
                return -1;
            }
            for (int g = 0; g < 4; g++) {
                heard.add(g);
                int then = who();
                heard.remove(heard.size() - 1);
                if (then >= 0 && then != is) {
                    return g;
                }
            }
            return -1;
        }

        long guard(int what) {
            if (what < 0 || what > 1) {
                return NO;
            }
            int was = house[3 + what];
            house[3 + what] = 1;
            long with = gain(0);
            house[3 + what] = 0;
            long without = gain(0);
            house[3 + what] = was;
            return with - without;
        }

        long hours(int from, int n) {
            int was = house[0];
            long sum = 0;
            for (int h = from; h < from + n; h++) {
                house[0] = h;
                for (int i = 0; i < callers.size(); i++) {
                    sum += stays(i) ? comes(i) * worth(i) : 0;
                }
            }
            house[0] = was;
            return sum;
        }

        long home(int n, int what) {
            if (n < 1 || n > 24 || what < 0 || what > 1) {
                return NO;
            }
            int best = 0;
            long most = hours(0, n);
            for (int h = 1; h + n <= 24; h++) {
                long sum = hours(h, n);
                if (sum > most) {
                    best = h;
                    most = sum;
                }
            }
            return what == 0 ? best : most;
        }

        boolean noSheet(int sheet) {
            return sheet < 0 || sheet > 3;
        }

        /** Tries all that can be, not the first hours alone. */
        int cards(int sheet) {
            if (noSheet(sheet)) {
                return -2;
            }
            if (sheets[sheet] == null) {
                return -11;
            }
            if (sheets[sheet].length == 0 || Arrays.stream(sheets[sheet]).anyMatch(v -> !is(v))) {
                return -2;
            }
            boolean[] can = null;
            int was = house[0];
            for (int who : sheets[sheet]) {
                boolean[] next = new boolean[24];
                for (int h = 0; h < 24; h++) {
                    house[0] = h;
                    boolean later = can == null;
                    for (int k = 0; k < h && !later; k++) {
                        later = can[k];
                    }
                    next[h] = later && comes(who) > 0;
                }
                can = next;
            }
            house[0] = was;
            for (int h = 0; h < 24; h++) {
                if (can[h]) {
                    return h;
                }
            }
            return -1;
        }

        int runs() {
            int bits = 0;
            for (int i = 0; i < callers.size(); i++) {
                bits += waits(i) == 0 ? 1 << i : 0;
            }
            return bits;
        }

        int signsRefused(int sheet) {
            if (noSheet(sheet)) {
                return -2;
            }
            if (sheets[sheet] == null) {
                return -11;
            }
            return sheets[sheet].length > 6 || Arrays.stream(sheets[sheet]).anyMatch(v -> v < 0 || v > 3) ? -2 : 0;
        }

        int judge(int sheet) {
            if (signsRefused(sheet) != 0) {
                return signsRefused(sheet);
            }
            List<Integer> was = heard;
            int found = -1;
            for (int n = sheets[sheet].length; n > 0; n--) {
                heard = new ArrayList<>();
                for (int i = 0; i < n; i++) {
                    heard.add(sheets[sheet][i]);
                }
                found = all() == 0 ? n - 1 : found;
            }
            heard = was;
            return found;
        }

        int fits(int sheet) {
            if (signsRefused(sheet) != 0) {
                return signsRefused(sheet);
            }
            List<Integer> was = heard;
            heard = new ArrayList<>();
            for (int g : sheets[sheet]) {
                heard.add(g);
            }
            int bits = 0;
            for (int i = 0; i < callers.size(); i++) {
                bits += weight(i) > 0 ? 1 << i : 0;
            }
            heard = was;
            return bits;
        }

        int laws(int who) {
            if (who != -1 && !is(who)) {
                return -2;
            }
            int was = rule;
            int bits = 0;
            for (rule = 0; rule < texts.size(); rule++) {
                bits += who() == who ? 1 << rule : 0;
            }
            rule = was;
            return bits;
        }

        List<Integer> draws(int seed, int n) {
            List<Integer> list = new ArrayList<>();
            long all = all();
            int z = seed;
            for (int k = 0; k < n && all > 0; k++) {
                z = z * 1103515245 + 12345;
                long mark = (z >>> 8) % all;
                int who = 0;
                long sum = weight(0);
                while (sum <= mark) {
                    who++;
                    sum += weight(who);
                }
                list.add(who);
            }
            return list;
        }

        long drawn(int seed, int n) {
            if (n < 1 || n > 30) {
                return NO;
            }
            List<Integer> was = heard;
            heard = new ArrayList<>();
            long sum = 0;
            for (int who : draws(seed, n)) {
                sum += worth(who);
            }
            heard = was;
            return sum;
        }

        long often(int seed, int n, int who, int part) {
            if (n < 1 || n > 30 || !is(who)) {
                return NO;
            }
            List<Integer> was = heard;
            heard = new ArrayList<>();
            long times = draws(seed, n).stream().filter(v -> v == who).count();
            heard = was;
            return lowest(times, n, part);
        }

        int image() {
            keptHouse = house.clone();
            keptRule = rule;
            keptHeard = new ArrayList<>(heard);
            keptNumbers = new ArrayList<>();
            for (int[] c : callers) {
                keptNumbers.add(c[1]);
            }
            return callers.size();
        }

        int back() {
            if (keptHouse == null) {
                return -3;
            }
            house = keptHouse.clone();
            rule = keptRule;
            heard = new ArrayList<>(keptHeard);
            callers = new ArrayList<>(callers.subList(0, keptNumbers.size()));
            for (int i = 0; i < callers.size(); i++) {
                callers.get(i)[1] = keptNumbers.get(i);
            }
            return callers.size();
        }

        int count(int what) {
            switch (what) {
                case 0: return callers.size();
                case 1: return heard.size();
                case 7: return texts.size();
                case 8: return tape.size();
                case 9: return rule;
                default: break;
            }
            if (what >= 2 && what <= 6) {
                return house[what - 2];
            }
            return what < 0 || what > 15 ? -2 : what - 10 < heard.size() ? heard.get(what - 10) : -1;
        }

        int sheet(int sheet, int sort, int n) {
            if (noSheet(sheet) || sort < -1 || sort > 2 || (sort >= 0 && n > 40)) {
                return -2;
            }
            if (sort >= 0 && n < 0) {
                return -14;
            }
            sorts[sheet] = sort;
            sheets[sheet] = sort < 0 ? null : new int[n];
            return 1;
        }

        int cell(int sheet, int i, int v) {
            if (noSheet(sheet)) {
                return -2;
            }
            if (sheets[sheet] == null) {
                return -11;
            }
            if (i < 0 || i >= sheets[sheet].length) {
                return -12;
            }
            sheets[sheet][i] = sorts[sheet] == 0 ? (byte) v : sorts[sheet] == 1 ? (short) v : v;
            return 1;
        }

        int copy(int sheet, int i, int other, int j, int n) {
            if (noSheet(sheet) || noSheet(other)) {
                return -2;
            }
            if (sheets[sheet] == null || sheets[other] == null) {
                return -11;
            }
            if (sorts[sheet] != sorts[other]) {
                return -13;
            }
            if (i < 0 || j < 0 || n < 0 || (long) i + n > sheets[sheet].length || (long) j + n > sheets[other].length) {
                return -12;
            }
            int[] were = sheets[sheet].clone();
            for (int k = 0; k < n; k++) {
                sheets[other][j + k] = were[i + k];
            }
            return n;
        }

        int hears(int sheet, int sort, int from, int n) {
            if (noSheet(sheet) || sort < 0 || sort > 2 || n < 0 || n > 6) {
                return -2;
            }
            if (sheets[sheet] == null) {
                return -11;
            }
            if (sorts[sheet] != sort) {
                return -13;
            }
            int before = heard.size();
            for (long k = from; k < (long) from + n; k++) {
                if (k < 0 || k >= sheets[sheet].length) {
                    return -12;
                }
                hear(sheets[sheet][(int) k]);
            }
            return heard.size() - before;
        }

        int taken(int who, int k) {
            if (k < 0 || k > 5) {
                return -2;
            }
            if (!is(who)) {
                return -11;
            }
            int[] above = {-1, 0, 0, 1, 2, 1};
            for (int kind = callers.get(who)[0]; kind >= 0; kind = above[kind]) {
                if (kind == k) {
                    return callers.get(who)[1];
                }
            }
            return -13;
        }
    }

    /** Goes through a text token by token with a row of what is open, and no recursion. */
    private static final class Checker {
        private final String text;
        private int at = 0;
        private int place = 0;
        private String token = "";

        Checker(String text) {
            this.text = text;
        }

        /** "" stands for the end, "?" for what is no token. */
        private void next() {
            while (at < text.length() && (text.charAt(at) == ' ' || text.charAt(at) == '\n')) {
                at++;
            }
            place = at;
            if (at == text.length()) {
                token = "";
                return;
            }
            String rest = text.substring(at);
            String word = rest.replaceAll("(?s)[^a-z].*", "");
            String digits = rest.replaceAll("(?s)[^0-9].*", "");
            token = !word.isEmpty() ? word : !digits.isEmpty() ? digits : rest.substring(0, 1);
            at += token.length();
            boolean known = Model.isOperand(token) && digits.length() <= 4 || "();+-*<=".contains(token)
                    || List.of("comes", "worth", "costs", "or", "and", "not").contains(token);
            token = known ? token : "?";
        }

        int check(List<List<String>> parts) {
            for (String key : new String[] {"comes", "worth", "costs"}) {
                next();
                if (!token.equals(key)) {
                    return place;
                }
                List<String> part = new ArrayList<>();
                int fault = checkPart(part);
                if (fault >= 0) {
                    return fault;
                }
                parts.add(part);
            }
            next();
            return token.isEmpty() ? -1 : place;
        }

        private int checkPart(List<String> part) {
            StringBuilder open = new StringBuilder();
            List<Boolean> compared = new ArrayList<>(List.of(false));
            boolean wantsOne = true;
            boolean notFits = true;
            for (;;) {
                next();
                if (token.isEmpty() || token.equals("?")) {
                    return place;
                }
                int last = compared.size() - 1;
                boolean opens = wantsOne && (token.equals("(") || token.equals("-") || token.equals("not") && notFits);
                if (opens) {
                    if (open.length() == 5) {
                        return place;
                    }
                    open.append(token.charAt(0));
                    if (token.equals("(")) {
                        compared.add(false);
                    }
                    notFits = !token.equals("-");
                } else if (wantsOne) {
                    if (!Model.isOperand(token)) {
                        return place;
                    }
                    wantsOne = false;
                    close(open, '-');
                } else if (token.equals("+") || token.equals("-") || token.equals("*")) {
                    wantsOne = true;
                    notFits = false;
                } else if ((token.equals("<") || token.equals("=")) && !compared.get(last)) {
                    compared.set(last, true);
                    wantsOne = true;
                    notFits = false;
                } else if (token.equals("or") || token.equals("and")) {
                    close(open, 'n');
                    compared.set(last, false);
                    wantsOne = true;
                    notFits = true;
                } else if (token.equals(")") && last > 0) {
                    close(open, 'n');
                    open.setLength(open.length() - 1);
                    compared.remove(last);
                    close(open, '-');
                } else {
                    return token.equals(";") && last == 0 ? -1 : place;
                }
                part.add(token);
            }
        }

        private static void close(StringBuilder open, char what) {
            while (open.length() > 0 && open.charAt(open.length() - 1) == what) {
                open.setLength(open.length() - 1);
            }
        }
    }

    private final Random random;
    private final int run;
    private AtTheDoor door = new AtTheDoor();
    private Model model = new Model();
    private int calls = 0;
    private boolean wrong = false;
    private final StringBuilder said = new StringBuilder();

    private ModelRunsTest(int run) {
        this.run = run;
        this.random = new Random(run * 7919L + 17);
    }

    private void due(String call, long got, long want) {
        calls++;
        said.append(call).append(" = ").append(got).append('\n');
        if (got != want && !wrong) {
            wrong = true;
            System.out.println("run " + run + ":\n" + said + "due is " + want);
        }
    }

    /** Mostly within 0 .. most, at times a little or far outside. */
    private int near(int most) {
        int dice = random.nextInt(40);
        if (dice == 0) {
            return random.nextInt();
        }
        if (dice == 1) {
            return random.nextBoolean() ? Integer.MAX_VALUE : Integer.MIN_VALUE;
        }
        return dice < 5 ? random.nextInt(most + 4) - 2 : random.nextInt(most + 1);
    }

    private String expression(int depth) {
        int dice = random.nextInt(depth <= 0 ? 8 : 20);
        String[] names = {"hour", "day", "sort", "home", "signs", "who"};
        if (dice < 4) {
            return names[random.nextInt(6)];
        }
        if (dice < 8) {
            return String.valueOf(random.nextInt(random.nextInt(4) == 0 ? 10000 : 20));
        }
        if (dice < 10) {
            return (random.nextBoolean() ? "-" : "not ") + expression(depth - 1);
        }
        if (dice < 13) {
            return "(" + expression(depth - 1) + ")";
        }
        String[] joins = {"+", "-", "*", "<", "=", " or ", " and "};
        return expression(depth - 1) + joins[random.nextInt(7)] + expression(depth - 1);
    }

    private String drawnText() {
        int depth = random.nextInt(5);
        String blank = random.nextBoolean() ? " " : "\n";
        String t = "comes" + blank + expression(depth) + ";worth " + expression(depth) + blank + ";costs "
                + expression(random.nextInt(3)) + ";";
        StringBuilder b = new StringBuilder(t);
        for (int k = random.nextInt(4) - 2; k > 0; k--) {
            int i = random.nextInt(b.length());
            String signs = " ;()+-*<=ab19$or";
            char c = signs.charAt(random.nextInt(signs.length()));
            int how = random.nextInt(3);
            if (how == 0) {
                b.setCharAt(i, c);
            } else if (how == 1) {
                b.insert(i, c);
            } else {
                b.deleteCharAt(i);
            }
        }
        return b.toString();
    }

    private void feedText() {
        String t = drawnText();
        for (int i = 0; i < t.length() && calls < CALLS; i++) {
            int c = random.nextInt(500) == 0 ? random.nextInt(300) - 20 : t.charAt(i);
            due("feed(" + c + ")", door.feed(c), model.feed(c));
        }
        due("text()", door.text(), model.text());
        int n = model.texts.size() - 1;
        due("force(" + n + ")", door.force(n), model.force(n));
    }

    private void fillSheet() {
        int s = near(3);
        int n = random.nextInt(8) == 0 ? near(40) : random.nextInt(8);
        int sort = near(2);
        due("sheet(" + s + "," + sort + "," + n + ")", door.sheet(s, sort, n), model.sheet(s, sort, n));
        for (int i = 0; i < n && i < 8; i++) {
            int v = random.nextInt(4) == 0 ? near(6) : near(3);
            due("cell(" + s + "," + i + "," + v + ")", door.cell(s, i, v), model.cell(s, i, v));
        }
    }

    private void change() {
        int a = near(6);
        int b = near(9);
        int c = near(5);
        switch (random.nextInt(12)) {
            case 0: case 1: due("set(" + a + "," + c + "," + b + ")", door.set(a, c, b), model.set(a, c, b)); break;
            case 2: due("set(0,0," + b * 2 + ")", door.set(0, 0, b * 2), model.set(0, 0, b * 2)); break;
            case 3: due("caller(" + c + "," + b + ")", door.caller(c, b), model.caller(c, b)); break;
            case 4: case 5: due("hear(" + c + ")", door.hear(c), model.hear(c)); break;
            case 6: due("hush()", door.hush(), model.hush()); break;
            case 7: due("force(" + a + ")", door.force(a), model.force(a)); break;
            case 8: due("image()", door.image(), model.image()); break;
            case 9: due("back()", door.back(), model.back()); break;
            case 10: fillSheet(); break;
            default: if (random.nextInt(3) == 0) { feedText(); } break;
        }
    }

    private void ask() {
        int a = near(6);
        int b = near(1);
        int z = random.nextInt();
        int n = near(30);
        switch (random.nextInt(14)) {
            case 0: due("told(" + a + "," + n % 9 + ")", door.told(a, n % 9), model.told(a, n % 9)); break;
            case 1: due("weight(" + a + ")", door.weight(a), model.is(a) ? model.weight(a) : a == -1 ? model.all() : NO); break;
            case 2: due("who()", door.who(), model.who()); break;
            case 3: due("odds(" + a + "," + b + ")", door.odds(a, b),
                    model.is(a) ? Model.lowest(model.weight(a), model.all(), b) : NO); break;
            case 4: due("gain(" + n + ")", door.gain(n), n < 0 || n > 20 ? NO : model.gain(n)); break;
            case 5: due("open()", door.open(), model.open()); break;
            case 6: case 7: due("peep(" + a % 3 + "," + b + ")", door.peep(a % 3, b), model.peep(a % 3, b)); break;
            case 8: due("tells()", door.tells(), model.tells()); break;
            case 9: due("guard(" + b + ")", door.guard(b), model.guard(b)); break;
            case 10: due("home(" + n + "," + b + ")", door.home(n, b), model.home(n, b)); break;
            case 11: due("laws(" + a + ")", door.laws(a), model.laws(a)); break;
            case 12: due("drawn(" + z + "," + n + ")", door.drawn(z, n), model.drawn(z, n)); break;
            default: due("often(" + z + "," + n + "," + a + "," + b + ")", door.often(z, n, a, b), model.often(z, n, a, b)); break;
        }
    }

    private void askSheets() {
        int s = near(3);
        int o = random.nextInt(3) == 0 ? s : near(3);
        int i = near(6);
        int j = near(6);
        int n = near(5);
        switch (random.nextInt(8)) {
            case 0: due("cards(" + s + ")", door.cards(s), model.cards(s)); break;
            case 1: due("runs()", door.runs(), model.runs()); break;
            case 2: due("judge(" + s + ")", door.judge(s), model.judge(s)); break;
            case 3: due("fits(" + s + ")", door.fits(s), model.fits(s)); break;
            case 4: due("copy(" + s + "," + i + "," + o + "," + j + "," + n + ")", door.copy(s, i, o, j, n), model.copy(s, i, o, j, n)); break;
            case 5: due("hears(" + s + "," + o % 3 + "," + i + "," + n + ")", door.hears(s, o % 3, i, n), model.hears(s, o % 3, i, n)); break;
            case 6: due("taken(" + i + "," + n + ")", door.taken(i, n), model.taken(i, n)); break;
            default: due("count(" + n * 3 + ")", door.count(n * 3), model.count(n * 3)); break;
        }
    }

    private void checkCounts() {
        for (int what = 0; what < 16; what++) {
            due("count(" + what + ")", door.count(what), model.count(what));
        }
    }

    private boolean holds() {
        for (int i = random.nextInt(8); i > 0; i--) {
            int kind = random.nextInt(6);
            int number = random.nextInt(10);
            due("caller(" + kind + "," + number + ")", door.caller(kind, number), model.caller(kind, number));
        }
        if (random.nextBoolean()) {
            feedText();
        }
        while (calls < CALLS - 40 && !wrong) {
            int dice = random.nextInt(10);
            if (dice < 3) {
                change();
            } else if (dice < 8) {
                ask();
            } else {
                askSheets();
            }
        }
        checkCounts();
        return !wrong;
    }

    public static void main(String[] args) {
        int bad = 0;
        for (int run = 0; run < RUNS && bad < 3; run++) {
            bad += new ModelRunsTest(run).holds() ? 0 : 1;
        }
        System.out.println(bad == 0 ? RUNS + " runs are as due" : bad + " runs are not as due");
        if (bad != 0) {
            System.exit(1);
        }
    }
}
