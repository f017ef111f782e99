/** Texts and the places at which they are broken. */
final class TextsTest {
    public static void main(String[] args) {
        signs();
        rules();
        openLimit();
        partLimits();
        operatorLimit();
        oldBytes();
        Due.finish("TextsTest");
    }

    private static void good(String... texts) {
        for (String text : texts) {
            Due.same("read " + text, new Bench().read(text), text.length());
        }
    }

    /** Each is broken where the mark ^ stands, which is no part of the text. */
    private static void broken(String... marked) {
        for (String text : marked) {
            int place = text.indexOf('^');
            String unmarked = text.substring(0, place) + text.substring(place + 1);
            Due.same("read " + text, new Bench().read(unmarked), "broken " + place);
        }
    }

    private static void signs() {
        good("a", "H", " \t\n\ra", "a--", "a--x", "--\na", "-- \200\1'(\n--\n a -- a",
            "1", "0", "9007199254740991", "000000000000000000000000000000000007", "''", "''''", "' ~'",
            "'0123456789012345678901234567890123456789'", "'" + "''".repeat(40) + "'", "'--'",
            "1and 2", "'a'like'b'", "1<2", "1<=2", "1>2", "1>=2", "1<>2", "1=2", "'a'||'b'",
            "abcdefghijklmnopqrst()", "_()", "_9a ( )", "a()", "NuLl", "trUE", "Z()", "zAZaz09_ ()", "1-1", "- - 1", "1 --1");
        broken("^", "a +^", "a + ^", "--a^", "\n--a\n^", "^i", "^ab", "^_", "^abs", "^a1", "1^a",
            "^9007199254740992", "^99999999999999999999999999999999999999", "1 + ^9007199254740992",
            "^'", "^'a", "^'a''", "^'''", "^'\n'", "a ^'\200'", "a = ^'\177'", "^'\37'",
            "^'01234567890123456789012345678901234567890'", "^'" + "''".repeat(41) + "'",
            "^abcdefghijklmnopqrstu()", "1 ^|", "1 ^| | 2", "1 ^! 2", "1 ^!= 2", "1 ^;", "1^\0", "1^\13",
            "1 < ^> 2", "1 < ^= 2", "1 = ^= 2", "1^.5", "^\"a\"", "^$", "1 + ^\200", "^abs ;", "^z $", "^z '",
            "a ^$ (", "z(^$", "'a' ^'b'", "1 ^2", "a ^b");
    }

    private static void rules() {
        good("a or b and not c = d", "not not a is null", "a is not null", "a in (1)",
            "a not in (1, b or c, 'x')", "a like b || c", "a not like b", "a between 1 + 1 and 2 and c",
            "a not between b and c or d", "- - a * - b", "f(1, 2)", "case when a then b end",
            "case when a or b then c in (1) when b then c else d and e end", "((a))", "(a or b) + (not c)",
            "a = (b = c)", "(a is null) is null", "coalesce((a), not b)", "1 + case when a then b end");
        broken("a or^", "^or a", "a and ^and", "not^", "a not^", "a not ^null", "a not ^b", "a is^", "a is ^b",
            "a is not ^not", "a is null ^is null", "a = b ^= c", "a < b ^> c", "a = ^not b", "a + ^not b",
            "- ^not a", "a not ^= b", "a not ^is null", "a like b ^like c", "a like^");
        broken("a in ^b", "a in (^)", "a in (b^", "a in (b ^c)", "a in (b,^)", "a in (b) ^in (c)",
            "a between b ^or c", "a between b^", "a between b and^", "a between b ^= c and d",
            "a between b and c ^between d and e", "a between ^not b and c");
        broken("(^)", "(a^", "(a ^b)", "a^)", "f(^,)", "f(a,^)", "f(a ^b)", "f(^", "f(a^", "true^(1)", "null ^null",
            "^+ a", "a + ^+ b", "a * ^* b", "a ^, b", "^when", "^end", "^in (a)");
        broken("case ^a when b then c end", "case ^end", "case when ^then", "case when a ^b", "case when a then ^end",
            "case when a then b ^then c end", "case when a then b else c ^when d then e end",
            "case when a then b else ^end", "case when a then b^", "case when a then b else c ^else d end");
    }

    private static void openLimit() {
        good("(".repeat(29) + "a" + ")".repeat(29));
        broken("(".repeat(30) + "^a" + ")".repeat(30), "(".repeat(30) + "^(a", "(".repeat(30) + "^",
            "(".repeat(30) + "^" + ")".repeat(30), "f(".repeat(29) + "a in (^)" + ")".repeat(29));
        good("not ".repeat(29) + "a", "- ".repeat(29) + "a", "not ".repeat(10) + "- ".repeat(19) + "a");
        broken("not ".repeat(29) + "^not a", "- ".repeat(29) + "^- a",
            "not ".repeat(10) + "- ".repeat(19) + "^- a");
        good("not ".repeat(28) + "a in (b)", "(not - ".repeat(9) + "(- a" + ")".repeat(10));
        broken("not ".repeat(29) + "a in (^b)", "(not - ".repeat(9) + "(- (^a" + ")".repeat(11),
            "(".repeat(29) + "^- 1" + ")".repeat(29), "(".repeat(29) + "^not a" + ")".repeat(29));
        good("(".repeat(29) + "f()" + ")".repeat(29), "f(1,".repeat(29) + "2" + ")".repeat(29));
        broken("(".repeat(29) + "f(^a)" + ")".repeat(29), "f(1,".repeat(29) + "f(^1" + ")".repeat(30));
        good("case when ".repeat(29) + "a" + " then b end".repeat(29));
        broken("(".repeat(29) + "case when ^a then b end", "case when ".repeat(30) + "^a");
        String otherwise = "case when a then b else ";
        good("case when a then ".repeat(29) + "a" + " end".repeat(29), otherwise.repeat(29) + "a" + " end".repeat(29));
        broken(otherwise.repeat(29) + "case when ^a", otherwise.repeat(27) + "- - case when ^a");
        good("- a" + " - - d".repeat(40), "not a and " + "not b or ".repeat(40) + "not c", "(a) + ".repeat(100) + "(a)");
    }

    private static void partLimits() {
        good("a in (1,2,3,4,5,6,7,8)", "f(1,2,3,4,5,6,7,8)", "f(1,f(1,2,3,4,5,6,7,8),3,4,5,6,7,8)");
        broken("a in (1,2,3,4,5,6,7,8,^9)", "a in (1,2,3,4,5,6,7,8,^)", "a in (1,2,3,4,5,6,7,8,^",
            "f(1,2,3,4,5,6,7,8, ^-9)");
        String whens = " when a then b".repeat(19);
        good("case" + whens + " end", "case" + whens + " else c end", "case when a then case" + whens + " end end");
        broken("case" + whens + " ^when a then b end");
    }

    private static void operatorLimit() {
        for (String sign : new String[] {"+", "-", "||", "*", "/", "%"}) {
            good(("a" + sign).repeat(300) + "a");
            broken(("a" + sign).repeat(300) + "a^" + sign + "a");
        }
        good("(a+a)*".repeat(150) + "1", "a*a+".repeat(150) + "a");
        broken("(a+a)*".repeat(150) + "1^+1", "a*a+".repeat(150) + "a^*a");
        String mixed = "1and 1or ".repeat(50) + "1+1-".repeat(100) + "1 ";
        good(mixed);
        broken(mixed + "^or 1", mixed + "^and 1", mixed + "^* 1");
        good(mixed + "= - 1", "a between 1 and 2 and ".repeat(15) + "a+".repeat(285) + "a");
    }

    /** What stood on the tape behind its end is no part of the text. */
    private static void oldBytes() {
        Bench x = new Bench();
        for (String text : new String[] {"''''", "12345", "abs(1)", "1<=2", "- - 1", "'a'||'a'", "----", "f(1)"}) {
            for (int n = 0; n <= text.length(); n++) {
                String due = new Bench().read(text.substring(0, n));
                x.tape(text);
                x.bench.end(n);
                String answer = Bench.of(() -> x.bench.read());
                Due.same("read " + n + " bytes of " + text, due.startsWith("broken") ? "broken " + x.count(1) : answer, due);
            }
        }
    }
}
