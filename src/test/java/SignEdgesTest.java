/** The edges of the signs of a text, sentence by sentence, and the places at which it is broken. */
final class SignEdgesTest {
    private static final String[] WORDS = {"or", "and", "not", "is", "null", "in", "like", "between", "case", "when", "then",
        "else",
        "end", "true", "false"};
    private static final String DIGITS = "0123456789";
    private static final String SMALL = "abcdefghijklmnopqrstuvwxyz";
    private static final String LETTERS = SMALL + SMALL.toUpperCase() + "_";

    public static void main(String[] args) {
        blanks();
        remarks();
        firstOfName();
        restOfName();
        capitals();
        nameLength();
        integers();
        charactersLength();
        charactersBytes();
        charactersEnd();
        marks();
        firstBroken();
        brokenAtTheEnd();
        brokenAtFirstByte();
        namesOfRegisters();
        namesOfNone();
        wordsAreNoNames();
        lengthOfText();
        Due.finish("SignEdgesTest");
    }

    /** What a fresh object answers to the text: its length, or broken and the place. */
    private static void read(String sentence, String text, Object due) {
        Due.same(sentence + " | read " + text, new Bench().read(text), due);
    }

    private static boolean isOneOf(char c, String all) {
        return all.indexOf(c) >= 0;
    }

    private static void blanks() {
        String sentence = "blanks (9, 10, 13, 32)";
        for (char c = 0; c < 256; c++) {
            if (isOneOf(c, "\t\n\r ")) {
                read(sentence, c + "1" + c, 3);
                read(sentence, "1" + c + "+" + c + c + "1", 6);
                read(sentence, "a" + c + "a", "broken 2");
                read(sentence, "<" + c + "=", "broken 0");
                read(sentence, "1 <" + c + "= 1", "broken 4");
                read(sentence, "" + c, "broken 1");
            } else if (!isOneOf(c, DIGITS + "+-*/%=<>")) {
                read(sentence, "1" + c + " ", "broken 1");
            }
        }
        Edge.of(sentence).reads("\t\n\r 3\r\n\t ", "0: 3")
            .breaks("3^\13", "3^\14", "3^\0", "3^\240", "3^\10", "3^\16", "^\37 3", "3^!");
    }

    private static void remarks() {
        String sentence = "-- up to 10 (or the end)";
        StringBuilder all = new StringBuilder();
        for (char c = 0; c < 256; c++) {
            all.append(c == 10 ? "" : c);
        }
        Edge.of(sentence).reads("3--", "0: 3").reads("3--)", "0: 3").reads("3 -- + 4\n", "0: 3").reads("3 -- + 4\n + 5", "0: 8")
            .reads("--\n3", "0: 3").reads("--3\n--4\n5--6", "0: 5").reads("3----\n+ 1", "0: 4").reads("3--\n\n--\n+ 1", "0: 4")
            .reads("3 --" + all + "\n+ 1", "0: 4").reads("3 -- \r + )", "0: 3").reads("3 - --x\n 1", "0: 2")
            .reads("'3--'", "1: '3--'").reads("'--' -- '\n", "1: '--'").reads("3 - -1", "0: 4").reads("3 -(-1)", "0: 4")
            .reads("3--1", "0: 3").reads("- --\n-1", "0: 1");
        Edge.of(sentence).breaks("--^", "--3^", "-- 3\r^", "--\n^", "3 -^", "3 - ^", "3 -\n-^", "3 --\n^)", "3 --x\r\n^4",
                "3 - --4^", "3 -- \n--\n^'", "3 /^/ 4").reads("3 ---4", "0: 3");
    }

    private static void firstOfName() {
        String sentence = "NAMES: a letter or _";
        for (char c = 0; c < 256; c++) {
            if (isOneOf(c, LETTERS)) {
                read(sentence, c + "zz()", 5);
            } else if (isOneOf(c, DIGITS)) {
                read(sentence, c + "zz()", "broken 1");
            } else if (isOneOf(c, "-(")) {
                read(sentence, c + "zz()", c == '(' ? "broken 5" : 5);
            } else if (!isOneOf(c, "\t\n\r ")) {
                read(sentence, c + "zz()", "broken 0");
            }
        }
        Edge.of(sentence).reads("_()", "error 2: error 2").reads("z()", "error 2: error 2")
            .breaks("9^z()", "^@z()", "^[z()", "^`z()", "^{z()", "^^z()");
    }

    private static void restOfName() {
        String sentence = "NAMES: then letters, digits, _";
        for (char c = 0; c < 256; c++) {
            String text = "z" + c + "()";
            if (isOneOf(c, LETTERS + DIGITS)) {
                read(sentence, text, 4);
            } else if (isOneOf(c, "\t\n\r ")) {
                read(sentence, text, 4);
            } else {
                read(sentence, text, c == '(' ? "broken 3" : "broken 0");
            }
        }
        for (char c : "az09_AZ".toCharArray()) {
            Edge.of(sentence).reads("length" + c + "('x')", "error 2: error 2").breaks("^a" + c, "^h" + c);
        }
        Edge.of(sentence).reads("length('x')", "0: 1").breaks("1^a", "1^_", "1^z9()").reads("1in(1)", "2: TRUE")
            .reads("1is null", "2: FALSE");
    }

    private static void capitals() {
        String sentence = "capitals and small letters the same";
        Edge.of(sentence).reads("A", "0: 7").reads("B", "1: 'hello'").reads("NULL", "3: NULL").reads("nULl Is NuLL", "2: TRUE")
            .reads("TRUE OR FALSE AND NOT TRUE", "2: TRUE").reads("1 IN (1) AND 'a' LIKE 'a'", "2: TRUE")
            .reads("'a' like 'A'", "2: FALSE").reads("A BETWEEN 1 AND 2", "2: FALSE")
            .reads("CASE WHEN TRUE THEN 1 ELSE 2 END", "0: 1").reads("Abs(-1)", "0: 1")
            .reads("LENGTH(UPPER('x')||Lower('Y'))", "0: 2").reads("SubStr('abc', 2, 1)", "1: 'b'")
            .reads("COALESCE(NULLIF(1, 1), 2)", "0: 2").reads("H", "1: 'it's'").breaks("^I", "^Z");
        for (String word : WORDS) {
            read(sentence, "1 " + word, new Bench().read("1 " + word.toUpperCase()));
            read(sentence, word + " 1", new Bench().read(word.toUpperCase() + " 1"));
        }
    }

    private static void nameLength() {
        String sentence = "words and NAMES: at most 20; too long: at its first byte";
        for (int n = 2; n <= 19; n++) {
            read(sentence, "z".repeat(n) + "()", n + 2);
        }
        for (int n = 21; n <= 100; n++) {
            read(sentence, "1+" + "z".repeat(n) + "()", "broken 2");
        }
        Edge.of(sentence).reads("z".repeat(20) + "()", "error 2: error 2").reads("_0123456789012345678 ()", "error 2: error 2")
            .breaks("^" + "z".repeat(21) + "()", "^_01234567890123456789()", "^" + "Z".repeat(20), "^" + "z".repeat(1000),
                "1 ^" + "z".repeat(21), "1 + ^" + "z".repeat(21) + " + )", "^" + "a".repeat(21),
                "^length" + "_".repeat(15) + "('x')");
    }

    private static void integers() {
        String sentence = "INTEGERS: digits, at most 2^53 - 1; too great: at its first byte";
        String zeros = "0".repeat(100);
        Edge.of(sentence).reads("9007199254740991", "0: 9007199254740991").reads("9007199254740990", "0: 9007199254740990")
            .reads("0", "0: 0").reads("-9007199254740991", "0: -9007199254740991")
            .reads(zeros + "9007199254740991", "0: 9007199254740991").reads("00", "0: 0").reads("0".repeat(1000), "0: 0")
            .reads("9", "0: 9").reads("1234567890", "0: 1234567890").breaks("^9007199254740992", "^9007199254741000",
                "-^9007199254740992", "^10000000000000000", "^" + zeros + "9007199254740992", "1 + ^9007199254740992 )",
                "^18446744073709551616", "^18446744073709551617", "^9223372036854775808", "^" + "9".repeat(1000),
                "^1" + "0".repeat(999), "1 ^9007199254740992", "f(^9007199254740992");
    }

    private static void charactersLength() {
        String sentence = "'CHARACTERS', '' for ', at most 40; too long: at its first byte";
        for (int n = 0; n <= 40; n++) {
            read(sentence, "'" + "x".repeat(n) + "'", n + 2);
            read(sentence, "'" + "''".repeat(n) + "'", 2 * n + 2);
        }
        for (int n : new int[] {41, 42, 80, 255, 256, 296, 400}) {
            read(sentence, "1=" + "'" + "x".repeat(n) + "'", "broken 2");
            read(sentence, "1=" + "'" + "''".repeat(n) + "'", "broken 2");
        }
        String forty = "0123456789".repeat(4);
        Edge.of(sentence).reads("''", "1: ''").reads("''''", "1: '''").reads("'" + forty + "'", "1: '" + forty + "'")
            .reads("'" + "''".repeat(40) + "'", "1: '" + "'".repeat(40) + "'")
            .reads("'''" + forty.substring(2) + "'''", "1: ''" + forty.substring(2) + "''")
            .reads("'" + " ".repeat(40) + "'", "1: '" + " ".repeat(40) + "'").breaks("^'" + forty + "x'",
                "^'" + "''".repeat(41) + "'", "^'" + forty + "'''", "1 + ^'" + "x".repeat(41) + "' )",
                "1 ^'" + "x".repeat(41) + "'", "^'" + "x".repeat(998) + "'");
    }

    private static void charactersBytes() {
        String sentence = "'CHARACTERS', bytes 32 .. 126; what is no sign: at its first byte";
        for (char c = 0; c < 256; c++) {
            if (c != '\'') {
                read(sentence, "'" + c + "'", c >= 32 && c <= 126 ? 3 : "broken 0");
                read(sentence, "1 = 'abc" + c + "'", c >= 32 && c <= 126 ? 10 : "broken 4");
            }
        }
        StringBuilder all = new StringBuilder();
        for (char c = 32; c <= 126; c++) {
            all.append(c);
        }
        for (int k = 0; k + 40 <= all.length(); k += 11) {
            String forty = all.substring(k, k + 40);
            Edge.of(sentence).reads("'" + forty.replace("'", "''") + "'", "1: '" + forty + "'");
        }
        Edge.of(sentence).breaks("^'\37'", "^'\177'", "^'\n'", "^'\t'", "^'a\200b'", "^'\377'", "^'\0'", "b || ^'\r'");
    }

    private static void charactersEnd() {
        String sentence = "what is no sign: at its first byte; a ' without its end";
        Edge.of(sentence).breaks("^'", "^'a", "^'''", "^'a''", "^'a''b", "^'a'''''' )", "b || ^'", "b ^'", "^' -- '' ", "f(^')",
                "^'" + "x".repeat(999));
        Edge.of(sentence).reads("'a'", "1: 'a'").reads("'a'''", "1: 'a''").breaks("'' ^''", "'a' ^'b'", "'a'--'\n^'");
    }

    private static void marks() {
        String sentence = "the signs below; what is no sign: at its first byte";
        for (char c = 0; c < 256; c++) {
            if (isOneOf(c, "+-*/%=<>")) {
                read(sentence, "1 " + c, "broken 3");
                read(sentence, "1 " + c + " 1", 5);
            } else if (!isOneOf(c, "\t\n\r ")) {
                read(sentence, "1 " + c + " 1", "broken 2");
            }
        }
        Edge.of(sentence).reads("1<2", "2: TRUE").reads("1<=1", "2: TRUE").reads("1<>1", "2: FALSE").reads("1>2", "2: FALSE")
            .reads("1>=1", "2: TRUE").reads("1=1", "2: TRUE").reads("'a'||'b'", "1: 'ab'").reads("7%4*2/3", "0: 2")
            .reads("1<-1", "2: FALSE").breaks("1 ^| 2", "1 ^|", "1 ^| | 2", "1 ||^", "1 ||^| 2", "1 || ^|| 2", "1 <^",
                "1 <^< 2", "1 >^> 2", "1 >^< 2", "1 =^< 2", "1 =^> 2", "1 =^= 2", "1 <=^> 2", "1 <>^= 2", "1 <=^= 2", "1 ^!= 2",
                "1 ^& 2", "1 ^^ 2", "1^.", "1^.0", "1 ^: 2", "1 ^; 2", "1 ^? 2", "^\"a\"", "^[a]", "^{a}", "^~1", "^#", "^$",
                "^\\", "^`");
    }

    private static void firstBroken() {
        String sentence = "the first byte of the first sign that can't stand there";
        Edge.of(sentence).breaks("1 ^1 1", "1 + ^) $", "1 ^1 9007199254740992", "1 ^1 '", "^) (", "1 ^, 2", "^z + 1 1",
                "1 ^true $", "^z $", "^z '", "^z " + "x".repeat(21), "z ( ^$", "1 + ^* 2 + *", "1 in ^1, 2", "^+1",
                "1 ^1" + "x".repeat(21), "^abs 1", "^abs", "1 between 2 ^or", "a ^b c d", "((1^", "1 =  ^=");
    }

    private static void brokenAtTheEnd() {
        String sentence = "its length at the end";
        Edge.of(sentence).breaks("^", " ^", "\n\n^", "--^", "1 +^", "1 + ^", "1 + --x^", "1 + --x\n^", "(^", "(1^", "f(^",
                "f(1^", "f(1,^", "not^", "-^", "case^", "case when^", "case when true^", "case when true then^",
                "case when true then 1^", "case when true then 1 else^", "case when true then 1 else 2^", "1 is^", "1 is not^",
                "1 not^", "1 in^", "1 in(^", "1 in(1^", "1 like^", "1 between^", "1 between 2^", "1 between 2 and^", "1 or^",
                "1 and^", "1 <^", "1 not in^", "1 not like^", "1 not between 2 and ^");
        read(sentence, " ".repeat(1000), "broken 1000");
        read(sentence, "1" + " ".repeat(998) + "+", "broken 1000");
        read(sentence, "--" + "x".repeat(998), "broken 1000");
    }

    private static void brokenAtFirstByte() {
        String sentence = "what is no sign, too great or too long: at its first byte";
        String[] none = {"$", "|", "'x", "'\1'", "'" + "x".repeat(41) + "'", "9007199254740992", "x".repeat(21), "\200"};
        for (String bad : none) {
            Edge.of(sentence).breaks("^" + bad, "  ^" + bad + " ", "1 + ^" + bad, "1 ^" + bad, "1 + 1 ^" + bad, "f(^" + bad,
                    "f(1 ^" + bad, "case ^" + bad, "case when ^" + bad, "a is ^" + bad, "a is not ^" + bad, "a not ^" + bad,
                    "a in ^" + bad, "a in (^" + bad, "a between 1 ^" + bad, "- ^" + bad, "not ^" + bad);
        }
        read(sentence, " ".repeat(999) + "$", "broken 999");
        read(sentence, "1" + " ".repeat(998) + "'", "broken 999");
    }

    private static void namesOfRegisters() {
        String sentence = "REGISTERS 0 .. 7 are named a .. h; a NAME that is no REGISTER is broken at its first byte";
        for (char c = 0; c < 256; c++) {
            if (isOneOf(c, "abcdefghABCDEFGH")) {
                read(sentence, "" + c, 1);
                read(sentence, "1 + " + c, 5);
            } else if (isOneOf(c, LETTERS)) {
                read(sentence, "" + c, "broken 0");
                read(sentence, "1 + " + c, "broken 4");
            }
        }
        Edge.of(sentence).reads("a", "0: 7").reads("h", "1: 'it's'").reads("H", "1: 'it's'").breaks("^i", "^I", "^_", "^z",
                "^A1", "^h_", "^aa", "^a0", "1 + ^i + (", "(^i)", "f(^i)", "f(1, ^x)", "case when ^i then 1 end");
        Bench x = new Bench();
        for (int r = 0; r < 8; r++) {
            x.set(r, r + 1);
        }
        Due.same(sentence, x.work("a+b*10+c*100+d*1000+e*10000+f*100000+g*1000000+h*10000000"), 87654321);
    }

    private static void namesOfNone() {
        String sentence = "NAME ( [X {, X}] ): a NAME that is no REGISTER may be followed by (";
        Edge.of(sentence).reads("a()", "error 2: error 2").reads("z(1)", "error 2: error 2").reads("abs(-1)", "0: 1")
            .reads("abs (-1)", "0: 1").reads("abs -- (\n\t(-1)", "0: 1").reads("a -- (\n", "0: 7")
            .breaks("^abs", "^abs)", "^abs 1", "^abs + (1)", "^abs -- (1)", "^coalesce", "^length, ('x')", "a ^abs(1)", "h(1^",
                "1 ^(1)", "'x' ^(1)", "(1) ^(1)", "abs(1) ^(1)");
    }

    private static void wordsAreNoNames() {
        String sentence = "Words that are no NAMES: or and not is null in like between case when then else end true false";
        for (String word : WORDS) {
            String value = "null true false".contains(word) ? word : "";
            boolean opens = word.equals("not") || word.equals("case");
            int place = opens || !value.isEmpty() ? word.length() : 0;
            read(sentence, word + "()", word.equals("not") ? "broken 4" : "broken " + place);
            read(sentence, word + "(1)", word.equals("not") ? 6 : "broken " + place);
            read(sentence, word, !value.isEmpty() ? word.length() : "broken " + place);
            read(sentence, word + "s(1)", word.length() + 4);
            read(sentence, "_" + word + "()", word.length() + 3);
            read(sentence, word + "1", "broken 0");
            String cut = word.substring(0, word.length() - 1);
            read(sentence, cut + "(1)", cut.length() + 3);
            read(sentence, "f(" + word.toUpperCase() + "1())", word.length() + 6);
        }
        Edge.of(sentence).breaks("^or(1)", "^and(1)", "^is(1)", "^in(1)", "^like(1)", "^between(1)", "^when(1)", "^then(1)",
                "^else(1)", "^end(1)", "null^(1)", "true^(1)", "false^(1)", "case^(1)", "1 + ^not(true)")
            .reads("not(true)", "2: FALSE").reads("ors()", "error 2: error 2");
    }

    private static void lengthOfText() {
        String sentence = "read answers its length in bytes";
        Edge.of(sentence).reads("3" + " ".repeat(999), "0: 3").reads(" ".repeat(999) + "3", "0: 3").reads("3", "0: 3")
            .reads("3 --" + "x".repeat(996), "0: 3").reads("1+".repeat(300) + " ".repeat(399) + "1", "0: 301").breaks("^");
        for (int n = 1; n <= 1000; n++) {
            read(sentence, " ".repeat(n - 1) + "3", n);
        }
    }
}
