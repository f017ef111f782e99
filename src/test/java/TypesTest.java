/** Types: the kind of an expression, and the errors 1 and 2 in their order. */
final class TypesTest {
    private static Bench x = new Bench();

    public static void main(String[] args) {
        operators();
        sameKinds();
        functions();
        order();
        Due.finish("TypesTest");
    }

    /** The registers: a INT, b TEXT, c BOOL. */
    private static void kinds(Object due, String... texts) {
        for (String text : texts) {
            x = new Bench();
            x.clear(1, 1);
            x.clear(2, 2);
            Due.same("kind of " + text, x.kind(text), due);
            if (String.valueOf(due).startsWith("error")) {
                Due.same("work of " + text, x.work(text), due);
            }
        }
    }

    private static void operators() {
        kinds(0, "a", "1", "-a", "-null", "a + 1", "a - null", "null * a", "null / null", "a % a", "(a)");
        kinds(1, "b", "''", "b || 'x'", "null || null", "b || null");
        kinds(2, "c", "true", "false", "c and null", "null or null", "not null", "not c", "b like null",
            "null not like null", "null = null", "null is null", "a is not null", "b is null", "c is null");
        kinds(3, "null", "(null)", "((NULL))");
        kinds("error 1", "-b", "-c", "a + b", "b + a", "c - 1", "a * c", "b / 1", "1 % b", "a || b", "b || c", "null || 1",
            "null + 'x'", "a and c", "c and a", "b or c", "null or 1", "not a", "not b", "a like b", "b like a",
            "b not like c", "- - b", "a + (b || b)", "a + 2 || b", "b || a + 2");
    }

    private static void sameKinds() {
        kinds(2, "a = 1", "b <> 'x'", "c < true", "b <= null", "null > a", "a >= a", "a in (1, null, a)", "null in (b, 'x')",
            "a between null and 3", "null not between null and 'x'", "c in (a = 1)", "c between false and true");
        kinds("error 1", "a = b", "b <> c", "c < a", "a <= 'x'", "b > 1", "true >= 1", "a in (1, 'x')", "a in (b)",
            "null in (1, 'x')", "a not in (null, c)", "a between 1 and b", "a between b and 1", "null between 1 and 'x'");
        kinds(0, "case when c then 1 end", "case when null then null else a end", "case when c then null when c then 1 end",
            "coalesce(null, a)", "coalesce(a, null)", "nullif(a, null)", "nullif(null, a)");
        kinds(1, "case when c then b else null end", "coalesce(b)", "nullif(b, 'x')");
        kinds(2, "case when c then c else true end", "coalesce(c, null, c)", "nullif(c, true)");
        kinds(3, "case when c then null end", "case when null then null else null end", "coalesce(null, null)",
            "nullif(null, null)");
        kinds("error 1", "case when a then 1 end", "case when c then 1 when b then 1 end", "case when c then 1 else b end",
            "case when c then 1 when c then c end", "case when c then null when c then 1 else c end", "coalesce(a, b)",
            "coalesce(null, a, null, c)", "nullif(a, b)", "nullif(a, 1) || b", "case when 'x' then null end");
    }

    private static void functions() {
        kinds(0, "abs(a)", "ABS(null)", "length(b)", "Length(null)");
        kinds(1, "upper(b)", "upper(null)", "lower(b)", "substr(b, a, a)", "substr(null, null, null)");
        kinds("error 1", "abs(b)", "abs(c)", "length(a)", "upper(a)", "lower(c)", "substr(a, 1, 1)", "substr(b, b, 1)",
            "substr(b, 1, b)");
        kinds("error 2", "a()", "a(1)", "f(1)", "abs()", "abs(1, 2)", "length()", "length(b, b)", "upper()", "upper(b, b)",
            "lower()", "substr()", "substr(b)", "substr(b, 1)", "substr(b, 1, 1, 1)", "coalesce()", "nullif()", "nullif(1)",
            "nullif(1, 2, 3)", "lengt(b)", "lengths(b)", "none()", "push_int(1)", "_(1)", "abs_(1)");
        kinds(0, "coalesce(1, 2, 3, 4, 5, 6, 7, 8)");
    }

    private static void order() {
        kinds("error 1", "-b + f()", "1 + 'x' + f()", "f(-b)", "f(1, 1 + c)", "case when -b then f() end", "c and 1 and f()",
            "a in (-b, f())", "abs(-b, f())", "abs(abs(b), 1)");
        kinds("error 2", "f() + -b", "1 + f() + 'x'", "a + f(b)", "abs(b, b)", "substr(a, b)", "case when a then f() end",
            "case when c then 1 else f() end", "a in (b, f())", "b between a and f()", "not f()", "c and f() and 1",
            "coalesce(a, b, f())", "coalesce(-f(1), -b)");
    }
}
