/** What expressions are worked out to, and the errors 3 to 6. */
final class ValuesTest {
    public static void main(String[] args) {
        numbers();
        texts();
        truths();
        comparisons();
        lists();
        choices();
        functions();
        Due.finish("ValuesTest");
    }

    /** The registers: a 7, b 'hello', c TRUE, d FALSE; e, f and g NULL as INT, TEXT and BOOL. */
    private static Bench filled() {
        Bench x = new Bench();
        x.clear(1, 1);
        x.clear(2, 2);
        x.clear(3, 2);
        x.clear(5, 1);
        x.clear(6, 2);
        x.set(0, 7);
        x.text(1, "hello");
        x.set(2, 1);
        x.set(3, 0);
        return x;
    }

    private static void works(Object due, String... texts) {
        for (String text : texts) {
            Due.same("work of " + text, filled().work(text), due);
        }
    }

    private static void numbers() {
        works(7, "a", "0 + a", "1 + 2 * 3", "(1 + 6)", "10 - 2 - 1", "14 / 2", "29 / 2 / 2", "7 % 8", "- -7", "0 - -a",
            "100 / 7 / 2", "3 * 5 % 8", "A -- a\n", "-(-a)", "2*3+1");
        works(-3, "-7 / 2", "7 / -2", "2 - 5", "-3", "-10 % 7", "-10 % -7");
        works(3, "-7 / -2", "10 % 7", "10 % -7", "2 - -1");
        works(0, "0 % 5", "1 / 2", "-1 / 2", "-0", "0 * 9007199254740991", "9007199254740991 * 0");
        works(9007199254740991L, "9007199254740991", "9007199254740990 + 1", "94906265 * 94906265 + 118490766",
            "-9007199254740991 * -1", "6361 * 1416003655831", "abs(-9007199254740991)");
        works(-9007199254740991L, "-9007199254740990 - 1", "-9007199254740991 / 1");
        works("error 3", "1 / 0", "1 % 0", "0 / 0", "1 + 1 / 0", "e + 1 / 0", "1 / 0 + e", "1 / (a - 7)", "-(1 / 0)");
        works("error 4", "9007199254740991 + 1", "-9007199254740991 - 1", "9007199254740991 * 2", "94906267 * 94906267",
            "9007199254740991 * 9007199254740991", "4294967296 * 4294967296", "-4294967296 * 4294967296 * 0",
            "9007199254740991 + 1 - 1", "4503599627370496 * 2", "-4503599627370496 * 2");
        works("NULL", "e", "e + 1", "1 - e", "e * e", "e / 0", "0 / e", "e % 0", "-e", "null + 1", "- null");
    }

    private static void texts() {
        works("'hello!'", "b || '!'", "'hel' || 'lo' || '!'");
        works("''", "''", "'' || ''");
        works("'it's'", "'it''s'", "'it' || '''' || 's'");
        works("'hellohellohellohellohellohellohellohello'", "b || b || b || b || b || b || b || b");
        works("error 5", "b || b || b || b || b || b || b || b || ' '", "'0123456789012345678901234567890123456789' || b");
        works("NULL", "f", "f || b", "b || f", "null || 'x'");
        works("'a--b'", "'a--b'");
    }

    private static void truths() {
        works("TRUE", "true", "c", "not d", "c and c", "c or d", "d or c", "g or c", "c or g", "not not c", "c or 1 / 0 = 1",
            "not (d and 1 / 0 = 1)", "d and d or c", "c or d and d", "not d and c", "not (c and d)", "d or d or c or 1 / 0 = 1");
        works("FALSE", "false", "d", "not c", "d and c", "c and d", "d and g", "g and d", "d or d", "d and 1 / 0 = 1",
            "not c or d", "(c or c) and d", "c and d and 1 / 0 = 1");
        works("NULL", "g", "not g", "g and c", "c and g", "g and g", "g or d", "d or g", "g or g", "null and null");
        works("error 3", "c and 1 / 0 = 1", "d or 1 / 0 = 1", "g and 1 / 0 = 1", "g or 1 / 0 = 1", "1 / 0 = 1 or c",
            "1 / 0 = 1 and d");
    }

    private static void comparisons() {
        works("TRUE", "a = 7", "a <> 8", "a < 8", "a <= 7", "a > -8", "a >= 7", "b = 'hello'", "b <> 'Hello'", "'B' < 'a'",
            "'a' < 'ab'", "'' < ' '", "'ab' < 'b'", "'b' > 'abc'", "'a' <= 'a'", "d < c", "c > d", "c = true", "d <> c",
            "'a ' > 'a'", "'Z' < '_'", "a is not null", "e is null", "g is null", "null is null", "f || b is null",
            "-9007199254740991 < 9007199254740991", "'bz' = 'bz' and 'b' < 'ba'", "'bz' = 'bz' and 'b' = 'b'");
        works("FALSE", "a = 8", "a <> 7", "a < 7", "a <= 6", "a > 7", "a >= 8", "b = 'hell'", "b = 'hello '", "c < d", "c <> c",
            "'a' > 'b'", "a is null", "e is not null", "'ab' < 'a'", "'' is null");
        works("NULL", "e = e", "a = e", "e <> a", "a < e", "f <= b", "c > g", "null >= null", "not (a = e)");
        works("error 3", "e = 1 / 0", "1 / 0 <> e", "1 / 0 is null");
        works("TRUE", "b like 'hello'", "b like '%'", "b like 'h%'", "b like '%o'", "b like '_____'", "b like 'h_l%'",
            "b like '%l%'", "b like '%%l_%%'", "'' like ''", "'' like '%'", "'%' like '_'", "'abcbc' like '%bc'",
            "'aab' like '%a_'", "b not like 'H%'", "b not like ''", "'a' like '%a%'", "'mississippi' like '%iss%ip_i'",
            "'aaaaaaaaaaaaaaaaaaaaaaaaaaaaaaaaaaaaaaaa' not like '%a%a%a%a%a%a%a%a%b'", "'_' like '_'", "'x' like '_%'");
        works("FALSE", "b like 'hell'", "b like 'hello_'", "b like '____'", "b like ''", "b like '%x%'", "'' like '_'",
            "b like 'HELLO'", "b not like '%'", "'ab' like '%a'", "'abc' like 'a_'");
        works("NULL", "f like b", "b like f", "b not like f", "null like null");
    }

    private static void lists() {
        works("TRUE", "a in (7)", "a in (1, 7, null)", "a in (7, 1 / 0)", "a in (e, 7, 1 / 0)", "a not in (1, 2)",
            "b in ('x', 'hello')", "c in (d, c)", "a in (1, 2, 3, 4, 5, 6, 8, 7)", "a in (3 + 4)", "c in (a = 7 or d)");
        works("FALSE", "a in (1)", "a in (1, 2, 3)", "a not in (1, 7, null)", "a not in (7, 1 / 0)", "c in (a = 8)");
        works("NULL", "a in (1, null)", "a in (null, 1)", "a in (e)", "e in (1, 2)", "e in (e)", "a not in (1, e, 2)",
            "e not in (1)", "null in (null)");
        works("error 3", "a in (1, 1 / 0)", "1 / 0 in (1)", "e in (1, 1 / 0)", "a in (null, 1 / 0)", "a in (1 / 0, 7)",
            "a not in (1, 1 / 0)");
        works("TRUE", "a between 7 and 7", "a between 1 and 9", "a not between 8 and 9", "a not between 8 and 1 / 0",
            "a not between 1 and 6", "a not between e and 6", "b between 'a' and 'i'", "c between d and c", "a between 1 and 9 and c",
            "a not between 8 and e", "a between 1 + 1 and 2 * 4");
        works("FALSE", "a between 8 and 9", "a between 1 and 6", "a between 8 and 1 / 0", "a between 8 and e", "a between e and 6",
            "a not between 7 and 7", "a between 9 and 1");
        works("NULL", "a between e and 7", "a between 7 and e", "e between 1 and 2", "a between e and e", "a not between e and 9",
            "e not between 2 and 1");
        works("error 3", "a between 7 and 1 / 0", "a between 1 / 0 and 1", "1 / 0 between 1 and 2", "e between 1 and 1 / 0",
            "a between e and 1 / 0", "a not between 1 and 1 / 0");
    }

    private static void choices() {
        works(1, "case when c then 1 end", "case when d then 2 when c then 1 else 3 end", "case when g then 2 else 1 end",
            "case when c then 1 when 1 / 0 = 1 then 2 else 1 / 0 end", "case when d then 1 / 0 else 1 end",
            "case when case when c then c end then 1 end", "1 + case when d then 5 else 0 end", "case when null then 2 else 1 end",
            "coalesce(1)", "coalesce(e, 1, 1 / 0)", "coalesce(null, null, null, null, null, null, null, 1)", "1 + coalesce(e, 0)",
            "coalesce(1, e)", "coalesce(e, coalesce(e, 1))", "nullif(1, 2)", "nullif(1, e)",
            "case when d then 2 when d then 3 when g then 4 when c then 1 end + coalesce(e, 0)");
        works("NULL", "case when d then 1 end", "case when g then 1 when d then 2 end", "case when c then e else 1 end",
            "coalesce(e)", "coalesce(null, e, null)", "nullif(a, 7)", "nullif(e, 1)", "nullif(e, e)", "nullif(b, 'hello')",
            "1 + coalesce(e, null)", "nullif(c, true)", "case when d then 1 else e end");
        works("'x'", "case when d then b else 'x' end", "coalesce(f, 'x')", "nullif('x', 'y')", "nullif('x', f)");
        works("TRUE", "nullif(c, d)", "coalesce(g, c)", "case when d then g else c end", "coalesce(f, 'x') in ('x')",
            "coalesce(e) is null", "7 in (coalesce(e, null), 7)", "7 > 5 + nullif(1, 2)", "nullif(7, 7) is null",
            "5 in (1, nullif(e, 1), 6 - nullif(1, e))");
        works("error 3", "case when 1 / 0 = 1 then 1 end", "case when c then 1 / 0 end", "case when d then 1 else 1 / 0 end",
            "coalesce(e, 1 / 0)", "coalesce(1 / 0, 1)", "nullif(e, 1 / 0)", "nullif(1 / 0, 1)", "case when g then 1 when 1 / 0 = 1 then 1 end");
    }

    private static void functions() {
        works(7, "abs(7)", "abs(-7)", "abs(0 - a)", "length('1234567')", "2 + length(b)");
        works(0, "abs(0)", "length('')");
        works(40, "length('0123456789012345678901234567890123456789')");
        works("'AZAZ09_@[`{'", "upper('azAZ09_@[`{')");
        works("'azaz09_@[`{'", "lower('azAZ09_@[`{')");
        works("'ell'", "substr(b, 2, 3)", "lower(substr(upper(b), 2, 3))");
        works("'he'", "substr(b, 1, 2)", "substr(b, 0, 3)", "substr(b, -5, 8)", "substr(b, -9007199254740991, 9007199254740991) || 'he'");
        works("'lo'", "substr(b, 4, 2)", "substr(b, 4, 9007199254740991)", "substr(b, 4, 3)");
        works("'hello'", "substr(b, 1, 5)", "substr(b, -1, 100)", "substr(b, 1, 9007199254740991)");
        works("''", "substr(b, 1, 0)", "substr(b, 6, 1)", "substr(b, 9, 1)", "substr(b, 0, 1)", "substr(b, -3, 3)", "substr(b, -3, 4)",
            "substr('', 1, 5)", "substr(b, 9007199254740991, 9007199254740991)", "substr(b, -9007199254740991, 9007199254740991)");
        works("'h'", "substr(b, -3, 5)");
        works("error 6", "substr(b, 1, -1)", "substr(b, 9, -1)", "substr('', 1, -9007199254740991)");
        works("NULL", "abs(e)", "length(f)", "upper(f)", "lower(null)", "substr(f, 1, -1)", "substr(b, e, -1)", "substr(b, 1, e)");
        works("error 3", "abs(1 / 0)", "substr(f, 1 / 0, 1)", "substr(b, 1, 1 / 0)", "substr(b, e, 1 / 0)");
    }
}
