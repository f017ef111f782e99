import java.math.BigInteger;
import java.util.ArrayList;
import java.util.List;
import java.util.regex.Pattern;

/** The edges of what is worked out, sentence by sentence: NULL, what is not worked out, and the errors 3 to 6. */
final class WorkEdgesTest {
    private static final long MOST = 9007199254740991L;
    private static final BigInteger GREATEST = BigInteger.valueOf(MOST);
    private static final String FORTY = "0123456789abcdefghijABCDEFGHIJ~ !\"#$%&.(";
    /** A truth as T, F, N or, with an error 3, E. */
    private static final String TRUTHS = "TFNE";
    private static final String[] TRUTH_TEXTS = {"true", "false", "null", "1 / 0 = 1"};

    /** For each kind another text with the same value. */
    private static final String[] AROUND = {"0 + 1 * (@)", "substr('' || (@), 1, 40)", "true in (false, (@))",
        "coalesce(null, (@))"};
    /** Used for some texts, so that what earlier ones have left is there, and for no more than 512 calls. */
    private static Bench bench = new Bench();
    private static int works = 0;

    public static void main(String[] args) {
        nullInStrict();
        partsAreWorkedOutBefore();
        andOr();
        not();
        rightSideOfAndOr();
        in();
        between();
        cases();
        coalesce();
        nullif();
        isNull();
        truthsAreCompared();
        textsAreCompared();
        intsAreCompared();
        division();
        divisionByZero();
        sumsTooGreat();
        productsTooGreat();
        signsNeverTooGreat();
        textsTooLong();
        like();
        likeOfTheLongest();
        substr();
        substrFar();
        substrBelowZero();
        upperLower();
        length();
        theValueStays();
        work();
        Due.finish("WorkEdgesTest");
    }

    /** The text alone, and as a part of others, for which values wait meanwhile. */
    private static void work(String sentence, String text, Object due) {
        String answer = String.valueOf(due);
        workAlone(sentence, text, answer);
        int kind = Integer.parseInt(new Bench().kind(text));
        workAlone(sentence, AROUND[kind].replace("@", text), answer);
        boolean error = answer.startsWith("error");
        workAlone(sentence, "7 in (1, case when (" + text + ") is null then 7 else 8 end)",
            error ? answer : answer.equals("NULL") ? "TRUE" : "FALSE");
    }

    private static void workAlone(String sentence, String text, String due) {
        if (works % 30 == 0) {
            bench = new Bench();
        }
        works++;
        Due.same(sentence + " | work of " + text, bench.work(text), due);
    }

    private static String truth(char c) {
        return TRUTH_TEXTS[TRUTHS.indexOf(c)];
    }

    private static String shown(char c) {
        return new String[] {"TRUE", "FALSE", "NULL", "error 3"}[TRUTHS.indexOf(c)];
    }

    private static char negated(char c) {
        return c == 'T' ? 'F' : c == 'F' ? 'T' : c;
    }

    /** By the sentence: the right side is not worked out if the left one decides. */
    private static char joined(char left, char right, char deciding) {
        if (left == 'E' || left == deciding) {
            return left;
        }
        if (right == 'E' || right == deciding) {
            return right;
        }
        return left == 'N' || right == 'N' ? 'N' : negated(deciding);
    }

    private static void nullInStrict() {
        String sentence = "NULL in + - * / % - || comparisons LIKE FUNCTIONS (but COALESCE, NULLIF): NULL";
        for (String sign : new String[] {"+", "-", "*", "/", "%", "=", "<>", "<", "<=", ">", ">="}) {
            Edge.of(sentence).works("NULL", "null " + sign + " 1", "a " + sign + " e", "null " + sign + " null",
                    "e " + sign + " 0", "0 " + sign + " e");
        }
        Edge.of(sentence).works("NULL", "- null", "-e", "null || 'x'", "b || f", "f || f", "f like b", "b like null",
                "b not like f", "null like null", "abs(e)", "length(f)", "upper(f)", "lower(null)", "substr(f, 1, 1)",
                "substr(b, e, 1)", "substr(b, 1, e)", "substr(f, 1, -1)", "substr(b, null, -1)", "e = e", "f <> f", "g < g",
                "null = null", "not (e = e)");
        Edge.of("by 0 of NULL: NULL").works("NULL", "null / 0", "e % 0", "null % 0");
    }

    private static void partsAreWorkedOutBefore() {
        String sentence = "all parts are worked out before, from the left: NULL + 1 / 0 is ERROR 3";
        String[] ints = {"1 / 0", "(9007199254740991 + 1)"};
        String[] texts = {"substr('', 1, -1)", "(b || b || b || b || b || b || b || b || b)"};
        String[] numbers = {"+", "-", "*", "=", "<>", "<", "<=", ">", ">="};
        for (String sign : numbers) {
            Edge.of(sentence).fails(3, "null " + sign + " (1 / 0)", "1 / 0 " + sign + " null", ints[0] + sign + ints[1])
                .fails(4, ints[1] + sign + ints[0], "null" + sign + ints[1]);
        }
        for (String sign : new String[] {" || ", " = ", " <> ", " < ", " <= ", " > ", " >= ", " like ", " not like "}) {
            Edge.of(sentence).fails(6, texts[0] + sign + texts[1], "null" + sign + texts[0], texts[0] + sign + "null")
                .fails(5, texts[1] + sign + texts[0]);
        }
        Edge.of(sentence).fails(3, "null + 1 / 0", "e / (1 / 0)", "e % (1 / 0)", "1 / 0 / 0", "substr(f, 1 / 0, 1)",
                "substr(b, e, 1 / 0)", "substr(f, 1 / 0, 9007199254740991 + 1)", "-(1 / 0)", "abs(1 / 0)")
            .fails(6, "length(substr('', 1, -1))", "upper(substr('', 1, -1))", "substr(substr('', 1, -1), 1 / 0, 1)")
            .fails(5, "lower(" + texts[1] + ")", "substr(" + texts[1] + ", 1, -1)")
            .fails(4, "substr(b, 9007199254740991 + 1, -1)", "substr(b, 1 / 1, 9007199254740991 + 1)");
    }

    private static void andOr() {
        for (char left : TRUTHS.toCharArray()) {
            for (char right : TRUTHS.toCharArray()) {
                work("AND of three values", truth(left) + " and " + truth(right), shown(joined(left, right, 'F')));
                work("OR of three values", truth(left) + " or " + truth(right), shown(joined(left, right, 'T')));
                for (char third : TRUTHS.toCharArray()) {
                    String text = truth(left) + " and " + truth(right) + " and " + truth(third);
                    work("AND of three values", text, shown(joined(joined(left, right, 'F'), third, 'F')));
                    work("OR of three values", text.replace("and", "or"), shown(joined(joined(left, right, 'T'), third, 'T')));
                    work("AND before OR", truth(left) + " or " + truth(right) + " and " + truth(third),
                        shown(joined(left, joined(right, third, 'F'), 'T')));
                }
            }
        }
    }

    private static void not() {
        for (char c : TRUTHS.toCharArray()) {
            work("NOT of three values", "not " + truth(c), shown(negated(c)));
            work("NOT of three values", "not not " + truth(c), shown(c));
        }
        Edge.of("NOT of three values").works("FALSE", "not true").works("TRUE", "not false").works("NULL", "not null", "not g")
            .fails(3, "not 1 / 0 = 1");
    }

    private static void rightSideOfAndOr() {
        Edge.of("the right side is not worked out if the left one decides")
            .works("FALSE", "false and 1 / 0 = 1", "d and 1 / 0 = 1").works("TRUE", "true or 1 / 0 = 1")
            .fails(3, "true and 1 / 0 = 1", "null and 1 / 0 = 1", "false or 1 / 0 = 1", "null or 1 / 0 = 1",
                "1 / 0 = 1 or true", "1 / 0 = 1 and false").works("FALSE", "null and false").works("TRUE", "null or true")
            .works("NULL", "null and true", "null or false", "true and null", "false or null");
    }

    /** A part as 1, 2, N, or E with an error 3. */
    private static String number(char c) {
        return c == 'N' ? "null" : c == 'E' ? "1 / 0" : "" + c;
    }

    private static char same(char one, char other) {
        return one == 'E' || other == 'E' ? 'E' : one == 'N' || other == 'N' ? 'N' : one == other ? 'T' : 'F';
    }

    private static void in() {
        for (char x : "12NE".toCharArray()) {
            for (int k = 0; k < 64; k++) {
                char[] parts = {"12NE".charAt(k / 16), "12NE".charAt(k / 4 % 4), "12NE".charAt(k % 4)};
                char due = x == 'E' ? 'E' : 'F';
                StringBuilder list = new StringBuilder();
                for (int n = 0; n < 3; n++) {
                    due = joined(due, same(x, parts[n]), 'T');
                    list.append(n == 0 ? "" : ", ").append(number(parts[n]));
                    work("IN: as = with each, by OR", number(x) + " in (" + list + ")", shown(due));
                    work("NOT IN: NOT of that", number(x) + " not in (" + list + ")", shown(negated(due)));
                }
            }
        }
        Edge.of("IN: what stands behind that is not worked out")
            .works("TRUE", "7 in (7, 1 / 0)", "7 in (null, 7, 1 / 0)", "7 in (1, 2, 3, 4, 5, 6, 7, 1 / 0)")
            .works("FALSE", "7 not in (7, 1 / 0)").fails(3, "7 in (1, 1 / 0)", "7 in (1 / 0, 7)", "null in (7, 1 / 0)",
                "1 / 0 in (7)", "7 in (1, 2, 3, 4, 5, 6, 8, 1 / 0)");
    }

    private static char atMost(char one, char other) {
        return one == 'E' || other == 'E' ? 'E' : one == 'N' || other == 'N' ? 'N' : one <= other ? 'T' : 'F';
    }

    private static void between() {
        for (char x : "123NE".toCharArray()) {
            for (char low : "123NE".toCharArray()) {
                for (char high : "123NE".toCharArray()) {
                    char due = joined(atMost(low, x), atMost(x, high), 'F');
                    String ends = number(low) + " and " + number(high);
                    work("BETWEEN: >= AND <=", number(x) + " between " + ends, shown(due));
                    work("NOT BETWEEN: NOT of that", number(x) + " not between " + ends, shown(negated(due)));
                }
            }
        }
        Edge.of("the third is not worked out if the second decides").works("FALSE", "7 between 8 and 1 / 0")
            .works("TRUE", "7 not between 8 and 1 / 0").fails(3, "7 between 7 and 1 / 0", "7 between null and 1 / 0",
                "null between 1 and 1 / 0", "7 between 1 / 0 and 1", "1 / 0 between 8 and 9");
        Edge.of("BETWEEN: >= AND <=")
            .works("TRUE", "7 between 7 and 7", "'b' between 'a' and 'b'", "true between false and true")
            .works("FALSE", "7 between 8 and 6", "7 between null and 6", "7 between 8 and null")
            .works("NULL", "7 between null and 7", "7 between 7 and null", "null between 2 and 1");
    }

    private static void cases() {
        String sentence = "CASE: the first WHEN that is TRUE; without: ELSE or NULL; nothing else is worked out";
        for (char one : TRUTHS.toCharArray()) {
            for (char two : TRUTHS.toCharArray()) {
                String text = "case when " + truth(one) + " then 1 when " + truth(two) + " then 2";
                String due = one == 'E' ? "error 3" : one == 'T' ? "1" : two == 'E' ? "error 3" : two == 'T' ? "2" : "";
                work(sentence, text + " end", due.isEmpty() ? "NULL" : due);
                work(sentence, text + " else 3 end", due.isEmpty() ? "3" : due);
                work(sentence, text + " else 1 / 0 end", due.isEmpty() ? "error 3" : due);
                work(sentence, text.replace("then 2", "then 1 / 0") + " else 3 end",
                    due.equals("2") ? "error 3" : due.isEmpty() ? "3" : due);
                work(sentence, text.replace("then 1", "then 1 / 0") + " else 3 end",
                    due.equals("1") ? "error 3" : due.isEmpty() ? "3" : due);
            }
        }
        Edge.of(sentence).works(1, "case when true then 1 when 1 / 0 = 1 then 1 / 0 else 1 / 0 end",
                "case when false then 1 / 0 when null then 1 / 0 else 1 end")
            .works("NULL", "case when false then 1 end", "case when null then 1 end", "case when true then null else 1 end")
            .fails(3, "case when 1 / 0 = 1 then 1 else 2 end");
    }

    private static void coalesce() {
        String sentence = "COALESCE: the first that is not NULL; what stands behind that is not worked out";
        for (char one : "1NE".toCharArray()) {
            for (char two : "2NE".toCharArray()) {
                for (char three : "3NE".toCharArray()) {
                    char first = one != 'N' ? one : two != 'N' ? two : three;
                    String due = first == 'N' ? "NULL" : first == 'E' ? "error 3" : "" + first;
                    work(sentence, "coalesce(" + number(one) + ", " + number(two) + ", " + number(three) + ")", due);
                }
            }
        }
        Edge.of(sentence)
            .works(1, "coalesce(1)", "coalesce(1, 1 / 0)", "coalesce(e, null, 1, 1 / 0)", "coalesce(e,e,e,e,e,e,e,1)")
            .works("NULL", "coalesce(e)", "coalesce(e,e,e,e,e,e,e,e)").works("''", "coalesce('', 'x')")
            .works("FALSE", "coalesce(false, true)").works(0, "coalesce(0, 1)")
            .fails(3, "coalesce(1 / 0, 1)", "coalesce(e, 1 / 0, 1)");
    }

    private static void nullif() {
        String sentence = "NULLIF: NULL if = is TRUE, else the first";
        for (char one : "12NE".toCharArray()) {
            for (char two : "12NE".toCharArray()) {
                String due = one == 'E' || two == 'E' ? "error 3" : one == two || one == 'N' ? "NULL" : "" + one;
                work(sentence, "nullif(" + number(one) + ", " + number(two) + ")", due);
            }
        }
        Edge.of(sentence).works("NULL", "nullif(7, a)", "nullif('', '')", "nullif(true, c)", "nullif(null, 1)")
            .works(7, "nullif(a, 8)", "nullif(a, null)").works("'x'", "nullif('x', 'X')");
    }

    private static void isNull() {
        Edge.of("IS [NOT] NULL").works("TRUE", "null is null", "e is null", "f is null", "g is null", "a is not null",
                "'' is not null", "false is not null", "0 is not null")
            .works("FALSE", "null is not null", "'' is null", "false is null", "0 is null")
            .fails(3, "1 / 0 is null", "1 / 0 is not null");
    }

    private static void compare(String sentence, String one, String other, int order) {
        String[] signs = {"=", "<>", "<", "<=", ">", ">="};
        boolean[] due = {order == 0, order != 0, order < 0, order <= 0, order > 0, order >= 0};
        for (int k = 0; k < signs.length; k++) {
            work(sentence, one + " " + signs[k] + " " + other, due[k] ? "TRUE" : "FALSE");
        }
    }

    private static void truthsAreCompared() {
        String[] truths = {"false", "true"};
        for (int k = 0; k < 4; k++) {
            compare("FALSE is less than TRUE", truths[k / 2], truths[k % 2], k / 2 - k % 2);
        }
    }

    private static void textsAreCompared() {
        String sentence = "TEXTS by their first other byte, a beginning is less";
        String x39 = "x".repeat(39);
        String[] texts = {"", " ", "A", "a", "ab", "aB", "b", "ba", "~", "a ", "Z", "_", "9", "10", "aa", x39, x39 + "x", x39 + "y",
            x39 + "w", "x", " x"};
        for (String one : texts) {
            for (String other : texts) {
                compare(sentence, "'" + one + "'", "'" + other + "'", one.compareTo(other));
                // What longer texts have left behind the ends of these is no part of them.
                compare(sentence, "'~~~~' = '~~~~' and '" + one + "'", "'" + other + "'", one.compareTo(other));
                compare(sentence, "'~~~~' in ('~~~~') and '" + one + "'", "'" + other + "'", one.compareTo(other));
            }
        }
    }

    private static void intsAreCompared() {
        long[] numbers = {0, 1, -1, MOST, -MOST, MOST - 1, 1 - MOST, 1L << 32, -(1L << 32), 7};
        for (long one : numbers) {
            for (long other : numbers) {
                compare("comparisons", "" + one, "" + other, Long.compare(one, other));
            }
        }
    }

    private static void division() {
        List<Long> numbers = new ArrayList<>(List.of(MOST, -MOST, MOST - 1, 1 - MOST, 1L << 32, -(1L << 32)));
        for (long n = -8; n <= 8; n++) {
            numbers.add(n);
        }
        for (long a : numbers) {
            for (long b : numbers) {
                BigInteger[] due = b == 0 ? null : BigInteger.valueOf(a).divideAndRemainder(BigInteger.valueOf(b));
                work("/: towards 0", a + " / " + b, due == null ? "error 3" : due[0]);
                work("% with the sign of the first", a + " % " + b, due == null ? "error 3" : due[1]);
            }
        }
    }

    private static void divisionByZero() {
        Edge.of("by 0: ERROR 3").works(7, "7 / 1").works(-7, "7 / -1").works(0, "7 % 1", "7 % -1", "0 / 1", "0 / -1", "0 % 1")
            .fails(3, "7 / 0", "7 % 0", "0 / 0", "0 % 0", "-7 / -0", "9007199254740991 / 0", "7 / (a - 7)", "7 % (a - a)",
                "7 / length('')");
    }

    private static void sumsTooGreat() {
        String sentence = "INT too great: ERROR 4";
        long[] numbers = {0, 1, -1, 2, MOST, -MOST, MOST - 1, 1 - MOST, MOST / 2, MOST / 2 + 1, -MOST / 2, -MOST / 2 - 1};
        for (long a : numbers) {
            for (long b : numbers) {
                whole(sentence, a, "+", b, BigInteger.valueOf(a).add(BigInteger.valueOf(b)));
                whole(sentence, a, "-", b, BigInteger.valueOf(a).subtract(BigInteger.valueOf(b)));
            }
        }
        Edge.of(sentence).works(MOST, "9007199254740990 + 1", "9007199254740991 + 0", "9007199254740990 - -1")
            .works(-MOST, "-9007199254740990 - 1", "-9007199254740990 + -1").fails(4, "9007199254740991 + 1",
                "9007199254740991 - -1", "-9007199254740991 - 1", "-9007199254740991 + -1",
                "9007199254740991 + 9007199254740991", "-9007199254740991 - 9007199254740991", "9007199254740991 + 1 - 1",
                "a + 9007199254740985");
    }

    private static void whole(String sentence, long a, String sign, long b, BigInteger due) {
        work(sentence, a + " " + sign + " " + b, due.abs().compareTo(GREATEST) > 0 ? "error 4" : due);
    }

    private static void productsTooGreat() {
        String sentence = "INT too great: ERROR 4";
        long[] factors = {1, 2, 3, 7, 6361, 69431, 20394401, 94906265, 94906266, 94906267, 3037000499L, 3037000500L, 4294967295L,
            4294967296L, 4294967297L,
            MOST / 2, MOST / 2 + 1, MOST};
        for (long a : factors) {
            for (long b : new long[] {MOST / a - 1, MOST / a, MOST / a + 1, a, MOST, 0}) {
                if (b <= MOST) {
                    BigInteger due = BigInteger.valueOf(a).multiply(BigInteger.valueOf(b));
                    whole(sentence, a, "*", b, due);
                    whole(sentence, b, "*", -a, due.negate());
                    whole(sentence, -a, "*", b, due.negate());
                    whole(sentence, -a, "*", -b, due);
                }
            }
        }
        Edge.of(sentence).works(MOST, "9007199254740991 * 1", "6361 * 1416003655831", "-9007199254740991 * -1")
            .works(-MOST, "6361 * -1416003655831").fails(4, "4503599627370496 * 2", "-4503599627370496 * 2",
                "94906266 * 94906267", "4294967296 * 4294967296", "9007199254740991 * 9007199254740991",
                "3037000500 * 3037000500", "9007199254740991 * -9007199254740991 * 0");
    }

    private static void signsNeverTooGreat() {
        Edge.of("INT, at most 2^53 - 1 in size").works(-MOST, "-9007199254740991", "- - -9007199254740991")
            .works(MOST, "- -9007199254740991", "abs(-9007199254740991)", "abs(9007199254740991)")
            .works(0, "-0", "abs(0)", "abs(-0)");
    }

    private static void textsTooLong() {
        String sentence = "TEXT too long: ERROR 5";
        for (int n = 0; n <= 40; n++) {
            for (int m : new int[] {0, 1, 39 - n, 40 - n, 41 - n, 40}) {
                if (m >= 0 && m <= 40) {
                    String one = FORTY.substring(0, n);
                    String other = FORTY.substring(40 - m);
                    work(sentence, "'" + one + "' || '" + other + "'", n + m > 40 ? "error 5" : "'" + one + other + "'");
                }
            }
        }
        Edge.of(sentence).works("'" + "hello".repeat(8) + "'", "b || b || b || b || b || b || b || b",
                "b || b || b || b || b || b || b || b || ''").works("''", "'' || ''").fails(5,
                "b || b || b || b || b || b || b || b || ' '", "' ' || (b || b || b || b || b || b || b || b)",
                "'" + FORTY + "' || '" + FORTY + "'");
    }

    private static List<String> allOf(String letters, int most) {
        List<String> all = new ArrayList<>(List.of(""));
        for (int k = 0; k < all.size(); k++) {
            if (all.get(k).length() < most) {
                for (char c : letters.toCharArray()) {
                    all.add(all.get(k) + c);
                }
            }
        }
        return all;
    }

    private static void like() {
        String sentence = "LIKE: % any CHARACTERS, _ one";
        List<String> texts = allOf("ab", 4);
        for (String pattern : allOf("ab%_", 3)) {
            Pattern due = Pattern.compile(pattern.replace("%", ".*").replace("_", "."));
            for (String text : texts) {
                work(sentence, "'" + text + "' like '" + pattern + "'", due.matcher(text).matches() ? "TRUE" : "FALSE");
            }
        }
        Edge.of(sentence).works("TRUE", "'' like ''", "'' like '%'", "'' like '%%'", "'x' like '_'", "'%' like '%'",
                "'_' like '_'", "'a%b' like 'a%b'", "'it''s' like '%''s'", "'.' like '.'", "'\\%' like '\\%'", "'a' like '%_'",
                "'a' like '_%'").works("FALSE", "'' like '_'", "'x' like ''", "'x' like '__'", "'xy' like '_'", "'x' like 'X'",
                "'x' like '.'", "'x' like 'x '", "'x' like '%_%_%'", "'x' not like '_'").works("TRUE", "'x' not like '__'");
    }

    private static void likeOfTheLongest() {
        String forty = "x".repeat(40);
        Edge.of("LIKE of 40 CHARACTERS").works("TRUE", "'" + forty + "' like '" + "_".repeat(40) + "'",
                "'" + forty + "' like '" + "%".repeat(40) + "'", "'" + forty + "' like '" + forty + "'",
                "'' like '" + "%".repeat(40) + "'", "'" + forty + "' like '%x'",
                "'" + forty + "' like '" + "%x".repeat(20) + "'", "'" + forty + "' like '" + "x%".repeat(20) + "'")
            .works("FALSE", "'" + "x".repeat(39) + "' like '" + "_".repeat(40) + "'",
                "'" + forty + "' like '" + "_".repeat(39) + "'", "'" + forty + "' like '" + "%x".repeat(19) + "%y'",
                "'' like '" + "%".repeat(39) + "_'");
    }

    private static void substr() {
        String sentence = "SUBSTR(s, i, n): CHARACTERS i (from 1) .. i + n - 1, as far as there are any"
            + " (of i below 1 those from 1 on)";
        for (String text : new String[] {"", "p", "pqrst"}) {
            for (int i = -4; i <= 8; i++) {
                for (int n = 0; n <= 10; n++) {
                    StringBuilder due = new StringBuilder();
                    for (int k = i; k < i + n; k++) {
                        due.append(k >= 1 && k <= text.length() ? text.substring(k - 1, k) : "");
                    }
                    work(sentence, "substr('" + text + "', " + i + ", " + n + ")", "'" + due + "'");
                }
            }
        }
        Edge.of(sentence).works("'hello'", "substr(b, 1, 5)", "substr(b, 1, 6)", "substr(b, 0, 6)", "substr(b, -1, 7)")
            .works("'o'", "substr(b, 5, 1)", "substr(b, 5, 2)").works("''", "substr(b, 6, 1)", "substr(b, 0, 1)",
                "substr(b, 1, 0)", "substr(b, 0, 0)", "substr('', 1, 1)", "substr(b, -4, 5)")
            .works("'h'", "substr(b, 1, 1)", "substr(b, 0, 2)", "substr(b, -4, 6)");
    }

    private static void substrFar() {
        String forty = "'" + FORTY + "'";
        Edge.of("SUBSTR, as far as there are any").works(forty, "substr(" + forty + ", 1, 40)",
                "substr(" + forty + ", 1, 9007199254740991)", "substr(" + forty + ", -9007199254740950, 9007199254740991)",
                "substr(" + forty + ", 0, 41)")
            .works("'('", "substr(" + forty + ", 40, 1)", "substr(" + forty + ", 40, 9007199254740991)")
            .works("''", "substr(" + forty + ", 41, 1)", "substr(" + forty + ", 9007199254740991, 9007199254740991)",
                "substr(" + forty + ", -9007199254740991, 9007199254740991)",
                "substr(" + forty + ", -9007199254740990, 9007199254740991)", "substr(" + forty + ", 4294967297, 1)",
                "substr(" + forty + ", -4294967295, 1)")
            .works("'0'", "substr(" + forty + ", 1, 1)", "substr(" + forty + ", -9007199254740989, 9007199254740991)");
    }

    private static void substrBelowZero() {
        Edge.of("n below 0: ERROR 6")
            .works("''", "substr(b, 1, 0)", "substr(b, 9, 0)", "substr(b, -9, 0)", "substr('', 0, 0)", "substr(b, 1, -0)")
            .fails(6, "substr(b, 1, -1)", "substr(b, 9, -1)", "substr(b, -9, -1)", "substr('', 0, -1)",
                "substr(b, 1, -9007199254740991)", "substr(b, -9007199254740991, -9007199254740991)")
            .works("NULL", "substr(null, 1, -1)", "substr(b, null, -1)");
    }

    private static void upperLower() {
        for (char c = 32; c <= 126; c++) {
            String text = c == '\'' ? "''''" : "'" + c + "'";
            work("UPPER(TEXT)", "upper(" + text + ")", "'" + (c >= 'a' && c <= 'z' ? (char) (c - 32) : c) + "'");
            work("LOWER(TEXT)", "lower(" + text + ")", "'" + (c >= 'A' && c <= 'Z' ? (char) (c + 32) : c) + "'");
        }
        Edge.of("UPPER, LOWER(TEXT)").works("''", "upper('')", "lower('')")
            .works("'" + "X".repeat(40) + "'", "upper('" + "x".repeat(40) + "')")
            .works("'" + "x".repeat(40) + "'", "lower('" + "X".repeat(40) + "')");
    }

    private static void length() {
        for (int n = 0; n <= 40; n++) {
            work("LENGTH(TEXT)", "length('" + FORTY.substring(0, n) + "')", n);
        }
        Edge.of("LENGTH(TEXT)").works(0, "length('')").works(40, "length('" + FORTY + "')").works(1, "length('''')")
            .works(5, "length(b)");
    }

    private static void theValueStays() {
        for (String first : new String[] {"'" + FORTY + "'", "''", "9007199254740991", "true", "null"}) {
            Edge edge = new Edge("an ERROR: ArithmeticException, it is told (THE VALUE stays)", x -> {
                State.filled(x);
                x.work(first);
            });
            edge.fails(1, "1 + 'x'").fails(2, "f()").fails(3, "1 / 0").fails(4, "9007199254740991 + 1")
                .fails(5, "'" + FORTY + "' || 'x'").fails(6, "substr('', 1, -1)");
        }
    }

    private static void work() {
        Edge.of("0 NULL, 1 it is there").works("NULL", "null", "e", "f", "g").works(0, "0").works("''", "''")
            .works("FALSE", "false").works("TRUE", "true").works("'" + FORTY + "'", "'" + FORTY + "'").works(MOST, "" + MOST)
            .works(-MOST, "-" + MOST);
        Bench x = new Bench();
        x.read("a + 1");
        for (long v : new long[] {0, -1, MOST - 1, -MOST}) {
            x.set(0, v);
            Due.same("worked out over the registers now", x.work(), v + 1);
        }
        x.set(0, MOST);
        Due.same("worked out over the registers now", x.work(), "error 4");
        Due.same("THE VALUE stays", x.value(0), 1 - MOST);
        x.clear(0, 0);
        Due.same("worked out over the registers now", x.work(), "NULL");
    }
}
