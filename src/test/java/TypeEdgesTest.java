/** The edges of types and functions, sentence by sentence: what fits, the errors 1 and 2, and which of them comes first. */
final class TypeEdgesTest {
    private static final int INT = 0;
    private static final int TEXT = 1;
    private static final int BOOL = 2;
    private static final int NULL = 3;
    private static final int SAME = 4;
    private static final int ANY = 5;
    /** For each kind a register of it that holds NULL, and one that holds another value; the word NULL for NULL. */
    private static final String[] OF_KIND = {"a", "b", "c", "null"};
    private static final String[] NULLS = {"e", "f", "g", "(null)"};
    private static final String[][] COUNTED = {{"abs", "1", "a"}, {"length", "1", "b"}, {"upper", "1", "b"}, {"lower", "1", "b"},
        {"nullif", "2", "a"}, {"substr", "3", "null"}, {"coalesce", "12345678", "a"}};

    public static void main(String[] args) {
        twoParts();
        onePart();
        threeParts();
        lists();
        choices();
        coalesces();
        nullTests();
        functionsByNumber();
        functionsByName();
        errorTwoBeforeTypes();
        partsFromTheLeft();
        partsBeforeWholes();
        kindsNow();
        nullAlone();
        errorsAreTold();
        nothingIsWorkedOut();
        Due.finish("TypeEdgesTest");
    }

    private static boolean fits(int kind, int due) {
        return kind == due || kind == NULL || due == NULL || due == ANY;
    }

    /** The one kind of all these, NULL if they are NULL alone, -1 if there are two. */
    private static int same(int... kinds) {
        int same = NULL;
        for (int kind : kinds) {
            if (!fits(kind, same)) {
                return -1;
            }
            same = same == NULL ? kind : same;
        }
        return same;
    }

    /** The text alone, and as a part of others, for which other kinds wait meanwhile. */
    private static void kind(String sentence, String text, int due) {
        kindAlone(sentence, text, due);
        kindAlone(sentence, "case when c then b when (" + text + ") is null then b end", due < 0 ? -1 : TEXT);
        kindAlone(sentence, "case when c then 1 when (" + text + ") is null then 1 end", due < 0 ? -1 : INT);
    }

    private static void kindAlone(String sentence, String text, int due) {
        Bench x = new Bench();
        State.filled(x);
        Due.same(sentence + " | kind of " + text, x.kind(text), due < 0 ? "error 1" : due);
        Due.same(sentence + " | the error then", x.count(2), due < 0 ? 1 : 6);
    }

    private static void twoParts() {
        two("+ - * / % INT", INT, INT, "+", "-", "*", "/", "%");
        two("|| TEXT", TEXT, TEXT, "||");
        two("LIKE TEXT", TEXT, BOOL, "like", "not like");
        two("AND OR BOOL", BOOL, BOOL, "and", "or");
        two("comparisons the same", SAME, BOOL, "=", "<>", "<", "<=", ">", ">=");
    }

    private static void two(String sentence, int due, int result, String... signs) {
        for (String sign : signs) {
            for (int one = 0; one <= 3; one++) {
                for (int other = 0; other <= 3; other++) {
                    boolean good = due == SAME ? same(one, other) >= 0 : fits(one, due) && fits(other, due);
                    kind(sentence, OF_KIND[one] + " " + sign + " " + OF_KIND[other], good ? result : -1);
                    kind(sentence, NULLS[one] + " " + sign + " " + NULLS[other], good ? result : -1);
                }
            }
        }
    }

    private static void onePart() {
        one("- INT", INT, INT, "- @");
        one("NOT BOOL", BOOL, BOOL, "not @");
        one("ABS(INT) INT", INT, INT, "abs(@)");
        one("LENGTH(TEXT) INT", TEXT, INT, "length(@)");
        one("UPPER(TEXT) TEXT", TEXT, TEXT, "upper(@)");
        one("LOWER(TEXT) TEXT", TEXT, TEXT, "lower(@)");
        one("WHEN BOOL", BOOL, INT, "case when @ then 1 end");
        one("WHEN BOOL", BOOL, TEXT, "case when c then b when @ then null else null end");
    }

    private static void one(String sentence, int due, int result, String text) {
        for (int kind = 0; kind <= 3; kind++) {
            kind(sentence, text.replace("@", OF_KIND[kind]), fits(kind, due) ? result : -1);
            kind(sentence, text.replace("@", NULLS[kind]), fits(kind, due) ? result : -1);
        }
    }

    private static void threeParts() {
        for (int k = 0; k < 64; k++) {
            int one = k / 16;
            int two = k / 4 % 4;
            int three = k % 4;
            int same = same(one, two, three) < 0 ? -1 : BOOL;
            kind("BETWEEN the same", OF_KIND[one] + " between " + OF_KIND[two] + " and " + NULLS[three], same);
            kind("BETWEEN the same", NULLS[one] + " not between " + OF_KIND[two] + " and " + OF_KIND[three], same);
            boolean good = fits(one, TEXT) && fits(two, INT) && fits(three, INT);
            kind("SUBSTR(TEXT, INT, INT) TEXT", "substr(" + OF_KIND[one] + ", " + OF_KIND[two] + ", " + OF_KIND[three] + ")",
                good ? TEXT : -1);
        }
    }

    private static void lists() {
        String sentence = "IN the same";
        for (int k = 0; k < 64; k++) {
            String one = OF_KIND[k / 16];
            String two = OF_KIND[k / 4 % 4];
            kind(sentence, one + " in (" + two + ")", same(k / 16, k / 4 % 4) < 0 ? -1 : BOOL);
            kind(sentence, one + " in (" + two + ", " + NULLS[k % 4] + ")", same(k / 16, k / 4 % 4, k % 4) < 0 ? -1 : BOOL);
            kind(sentence, "null not in (" + one + ", null, null, " + two + ", null, null, null, " + OF_KIND[k % 4] + ")",
                same(k / 16, k / 4 % 4, k % 4) < 0 ? -1 : BOOL);
        }
    }

    private static void choices() {
        String sentence = "CASE the same";
        for (int k = 0; k < 64; k++) {
            String one = OF_KIND[k / 16];
            String two = OF_KIND[k / 4 % 4];
            kind(sentence, "case when c then " + one + " else " + two + " end", same(k / 16, k / 4 % 4));
            kind(sentence, "case when c then " + one + " when null then " + two + " end", same(k / 16, k / 4 % 4));
            kind(sentence, "case when c then " + one + " when d then " + two + " else " + OF_KIND[k % 4] + " end",
                same(k / 16, k / 4 % 4, k % 4));
        }
    }

    private static void coalesces() {
        for (int k = 0; k < 64; k++) {
            String one = OF_KIND[k / 16];
            String two = OF_KIND[k / 4 % 4];
            kind("COALESCE the same", "coalesce(" + one + ")", k / 16);
            kind("COALESCE the same", "coalesce(" + one + ", " + two + ", " + OF_KIND[k % 4] + ")", same(k / 16, k / 4 % 4, k % 4));
            kind("COALESCE the same", "coalesce(null,null,null,null,null,null," + one + "," + two + ")", same(k / 16, k / 4 % 4));
            kind("NULLIF the same", "nullif(" + one + ", " + two + ")", same(k / 16, k / 4 % 4));
        }
    }

    private static void nullTests() {
        for (int k = 0; k <= 3; k++) {
            kind("NULL fits all", OF_KIND[k] + " is null", BOOL);
            kind("NULL fits all", NULLS[k] + " is not null", BOOL);
        }
    }

    private static void functionsByNumber() {
        String sentence = "ERROR 2 no such one with so many";
        for (String[] function : COUNTED) {
            for (int n = 0; n <= 8; n++) {
                String text = function[0] + "(" + (function[2] + ",").repeat(n).replaceAll(",$", "") + ")";
                boolean good = n > 0 && function[1].contains("" + n);
                Bench x = new Bench();
                State.filled(x);
                String answer = x.kind(text);
                Due.same(sentence + " | " + text, answer.equals("error 2"), !good);
                Due.same(sentence + " | work of " + text, x.work(text).equals("error 2"), !good);
            }
        }
        Edge.of(sentence).isWrong(2, "abs()", "abs(1, 2)", "length()", "length(b, b)", "upper()", "upper(b, b)", "lower()",
                "lower(b, b)", "substr()", "substr(b, 1)", "substr(b, 1, 1, 1)", "nullif(1)", "nullif(1, 2, 3)", "nullif()",
                "coalesce()");
        Edge.of(sentence).isOfKind(INT, "abs(1)", "length(b)", "nullif(1, 2)")
            .isOfKind(TEXT, "upper(b)", "lower(b)", "substr(b, 1, 1)");
        Edge.of("COALESCE(X, ..) of one or more").isOfKind(INT, "coalesce(1)", "coalesce(1,2,3,4,5,6,7,8)")
            .isWrong(2, "coalesce()");
    }

    private static void functionsByName() {
        String sentence = "ERROR 2 no such one";
        for (String[] function : COUNTED) {
            String name = function[0];
            String parts = "(" + (function[2] + ",").repeat(function[1].charAt(0) - '1') + function[2] + ")";
            Edge.of(sentence).isWrong(2, name.substring(1) + parts, name.substring(0, name.length() - 1) + parts,
                    name + "_" + parts, "_" + name + parts, name + "s" + parts);
            Due.same(sentence + " | " + name + parts, new Bench().kind(name.toUpperCase() + "(null" + parts.replaceAll("[^,]",
                "").replace(",", ",null") + ")")
                .startsWith("error"), false);
        }
        Edge.of(sentence).isWrong(2, "a(1)", "h()", "i()", "_()", "count(1)", "sum(1)", "ifnull(1, 2)", "x1_(1,2,3,4,5,6,7,8)");
    }

    private static void errorTwoBeforeTypes() {
        Edge.of("ERROR 2 (behind its parts, before types)")
            .isWrong(2, "abs(b, b)", "abs('x', true)", "length(1, 2)", "substr(1, 'x')", "nullif(1, 'x', true)", "f(1 , 'x')")
            .isWrong(1, "abs(-b, 1)", "f(-b)", "f(1, not 1)", "coalesce(-b)", "nullif(-b)", "abs(abs(b), 1)",
                "substr(b, 1 || 2)").isWrong(2, "abs(f())", "abs(f(), -b)", "f(f(), -b)", "abs(-f())");
    }

    private static void partsFromTheLeft() {
        String[] texts = {"@ + @", "@ - @", "@ * @", "@ / @", "@ % @", "@ || @", "@ like @", "@ and @", "@ or @", "@ = @", "@ <> @",
            "@ < @", "@ <= @", "@ > @", "@ >= @",
            "@ in (@)", "1 in (@, @)", "1 in (1, @, 2, @)", "@ between @ and 1", "1 between @ and @", "@ between 1 and @",
            "@ not in (1, @)", "@ not like @",
            "case when @ then @ end", "case when c then @ when @ then 1 end", "case when c then @ else @ end",
            "case when @ then 1 else @ end",
            "case when c then 1 when @ then @ end", "coalesce(@, @)", "coalesce(1, @, 2, @)", "nullif(@, @)", "substr(@, @, 1)",
            "substr(b, @, @)",
            "substr(@, 1, @)", "f(@, @)", "abs(@, @)"};
        for (String text : texts) {
            Edge.of("looked at from the left").isWrong(1, text.replaceFirst("@", "(-true)").replace("@", "f()"))
                .isWrong(2, text.replaceFirst("@", "f()").replace("@", "(-true)"));
        }
    }

    private static void partsBeforeWholes() {
        Edge.of("all parts before what they are parts of").isWrong(2, "b + f()", "1 || f()", "1 like f()", "1 and f()",
                "b or f()", "1 in (b, f())", "1 between b and f()", "case when 1 then f() end",
                "case when c then 1 when c then b else f() end", "case when 1 then 1 else f() end", "coalesce(1, b, f())",
                "substr(1, b, f())", "nullif(1, f())", "not f()", "- f()", "f() is null", "1 + b * f()", "1 + (b || f())",
                "c or 1 and f()").isWrong(1, "b + 1 + f()", "1 + b || f()", "b * 1 * f()", "1 and c and f()", "b or c or f()",
                "1 + b = f()", "(1 = b) = f()", "- b + f()", "not 1 and f()", "b * 1 + f()", "1 in (b) and f()",
                "case when 1 then 1 end + f()", "abs(b) + f()");
    }

    private static void kindsNow() {
        String sentence = "The KIND of X by the KINDS of REGISTERS now";
        for (int r = 0; r < 8; r++) {
            Bench x = new Bench();
            String name = State.NAMES.substring(r, r + 1);
            x.read(name);
            for (int kind : new int[] {0, 1, 2, 1, 0}) {
                x.clear(r, kind);
                Due.same(sentence + " | " + name, x.kind(), kind);
            }
        }
        Bench x = new Bench();
        x.read("a + h");
        Due.same(sentence + " | a + h", x.kind(), INT);
        x.clear(7, 1);
        Due.same(sentence + " | a + h", x.kind(), "error 1");
        x.clear(7, 0);
        Due.same(sentence + " | a + h", x.kind(), INT);
        x.clear(0, 2);
        Due.same(sentence + " | a + h", x.work(), "error 1");
    }

    private static void nullAlone() {
        Edge.of("3 if it is NULL alone").isOfKind(NULL, "null", "(null)", "((null))", "coalesce(null)", "coalesce(null, null)",
                "nullif(null, null)", "case when true then null end", "case when null then null else null end")
            .isOfKind(INT, "e", "-null", "null + null", "null * null", "abs(null)", "length(null)", "coalesce(null, e)",
                "nullif(null, 1)", "case when true then null else 1 end")
            .isOfKind(TEXT, "f", "null || null", "upper(null)", "substr(null, null, null)").isOfKind(BOOL, "g", "null = null",
                "null and null", "not null", "null is null", "null in (null)", "null between null and null", "null like null");
    }

    private static void errorsAreTold() {
        Edge.of("ERROR 1, 2: ArithmeticException, it is told").isWrong(1, "1 + 'x'", "not 1", "case when 1 then 1 end")
            .isWrong(2, "f()", "abs()").isOfKind(INT, "1", "1 + null").isOfKind(TEXT, "'x'").isOfKind(BOOL, "true");
        Edge.of("X is checked likewise: also what is not worked out").isWrong(1, "true or 1", "false and 'x'",
                "case when true then 1 else 'x' end", "coalesce(1, 'x')", "1 in (1, 'x')", "1 between 2 and 'x'", "1 / 0 + 'x'")
            .isWrong(2, "true or f()", "false and f()", "case when true then 1 else f() end", "coalesce(1, f())",
                "1 in (1, f())", "1 between 2 and f()", "1 / 0 + f()");
    }

    private static void nothingIsWorkedOut() {
        Edge.of("kind works nothing out").isOfKind(INT, "1 / 0", "1 % 0", "9007199254740991 + 1")
            .isOfKind(TEXT, "substr('', 1, -1)", "'" + "x".repeat(40) + "' || 'x'")
            .isOfKind(BOOL, "1 / 0 = 1", "true and 1 / 0 is null");
    }
}
