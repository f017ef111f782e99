/** The edges of the rules X to P, sentence by sentence, with their limits. */
final class RuleEdgesTest {
    /** What stands before the first X that is opened, what then before the X in which the next one stands, and what closes it. */
    private static final String[][] OPENERS = {{"(", "", ")"}, {"f(", "", ")"}, {"f(", "1,", ")"}, {"a in (", "", ")"},
        {"a not in (", "1,", ")"},
        {"case when ", "", " then 1 end"}, {"case when ", "a then ", " end"}, {"case when ", "a then 1 else ", " end"}};

    public static void main(String[] args) {
        ors();
        ands();
        nots();
        comparisons();
        nullTests();
        lists();
        likes();
        betweens();
        sums();
        products();
        signsInFront();
        parentheses();
        functions();
        choices();
        openX();
        openNot();
        openMinus();
        openMixed();
        openNoMore();
        openAndWorkedOut();
        openWithMostValues();
        eightInList();
        eightInFunction();
        nineteenWhens();
        threeHundredOfOne();
        threeHundredOfAll();
        notAmongThreeHundred();
        Due.finish("RuleEdgesTest");
    }

    /** What is shown of the text as X where all is filled. */
    private static String shown(String text) {
        Bench x = new Bench();
        State.filled(x);
        return x.kind(text) + ": " + x.work(text);
    }

    private static void ors() {
        Edge.of("X: A {OR A}.").reads("true", "2: TRUE").reads("false or true", "2: TRUE")
            .reads("false or false or true", "2: TRUE")
            .breaks("true or^", "^or true", "true or ^or true", "true or ^)", "true ^true", "(true or^", "true or ^and true");
    }

    private static void ands() {
        Edge.of("A: N {AND N}.").reads("true and false", "2: FALSE").reads("true or true and false", "2: TRUE")
            .reads("false and true or true", "2: TRUE").reads("true and true and false", "2: FALSE")
            .breaks("true and^", "^and true", "true and ^and true", "true and ^or true");
    }

    private static void nots() {
        Edge.of("N: NOT N | C.").reads("not true", "2: FALSE").reads("not not true", "2: TRUE").reads("not 1 = 2", "2: TRUE")
            .reads("not false and false", "2: FALSE").reads("false and not false", "2: FALSE")
            .reads("not null is null", "2: FALSE").breaks("not^", "not not^", "not ^and true", "not ^or", "1 = ^not true",
                "1 + ^not true", "true not^", "true not ^true");
    }

    private static void comparisons() {
        String[] signs = {"=", "<>", "<", "<=", ">", ">="};
        String[] due = {"2: FALSE", "2: TRUE", "2: TRUE", "2: TRUE", "2: FALSE", "2: FALSE"};
        for (int k = 0; k < signs.length; k++) {
            String once = "1 " + signs[k] + " 2";
            Edge.of("C: S [(= | <> | < | <= | > | >=) S]").reads(once, due[k]).reads("1+0" + signs[k] + "2*1", due[k])
                .reads("(" + once + ") = true", due[k]).breaks("1 " + signs[k] + "^", "^" + signs[k] + " 1",
                    "1 " + signs[k] + " ^)", "1 " + signs[k] + " ^not 2", "1 not ^" + signs[k] + " 2",
                    once + " ^" + signs[k] + " 3", once + " ^is null", once + " ^in (3)", once + " ^not in (3)",
                    once + " ^between 1 and 3", once + " ^like 3");
        }
    }

    private static void nullTests() {
        Edge.of("C: S [IS [NOT] NULL]").reads("a is null", "2: FALSE").reads("a is not null", "2: TRUE")
            .reads("a + null is null", "2: TRUE").breaks("a is^", "a is not^", "a is not ^not null", "a is ^true",
                "a is ^(null)", "a is null ^is null", "a is null ^= true", "a not ^is null", "^is null", "a is not ^a",
                "a is null ^null");
    }

    private static void lists() {
        Edge.of("C: S [[NOT] IN ( X {, X} )]").reads("7 in (7)", "2: TRUE").reads("7 not in (7)", "2: FALSE")
            .reads("7 in (1,7)", "2: TRUE").reads("true in (false or true)", "2: TRUE").reads("1 + 6 in (7)", "2: TRUE")
            .reads("(7 in (7)) in (true)", "2: TRUE").breaks("7 in^", "7 in ^7", "7 in (^", "7 in (^)", "7 in (7^", "7 in (7,^",
                "7 in (7,^)", "7 in (^,7)", "7 in (7 ^7)", "7 in (7) ^in (7)", "7 in (7,^,7)", "^in (7)", "7 not^", "7 not in^",
                "7 not in (^)", "7 in ^not (7)", "7 not ^not in (7)", "7 in (7) ^= true");
    }

    private static void likes() {
        Edge.of("C: S [[NOT] LIKE S]").reads("'a' like 'a'", "2: TRUE").reads("'a' not like 'a'", "2: FALSE")
            .reads("'a' || 'b' like '_' || '_'", "2: TRUE").breaks("'a' like^", "^like 'a'", "'a' like 'a' ^like 'a'",
                "'a' like ^not 'a'", "'a' not like^", "'a' like ^like", "'a' like 'a' ^= true", "'a' not ^not like 'a'");
    }

    private static void betweens() {
        Edge.of("C: S [[NOT] BETWEEN S AND S]").reads("2 between 1 and 3", "2: TRUE").reads("2 not between 1 and 3", "2: FALSE")
            .reads("2 between 1 and 3 and false", "2: FALSE").reads("false and 2 between 1 and 3", "2: FALSE")
            .reads("1 + 1 between 1 * 2 and 4 - 2", "2: TRUE").reads("true between (false or false) and true", "2: TRUE")
            .breaks("2 between^", "2 between 1^", "2 between 1 and^", "2 between ^and 3", "2 between 1 ^or 3",
                "2 between 1 ^, 3", "2 between 1 ^= 1 and 3", "2 between 1 and 3 ^between 1 and 3", "2 between ^not 1 and 3",
                "2 between 1 and ^not 3", "^between 1 and 3", "2 between 1 and 3 ^= true", "2 between 1 ^in (1) and 3",
                "2 not between^", "2 not ^not between 1 and 3");
    }

    private static void sums() {
        Edge.of("S: T {(+ | - | \"||\") T}.").reads("3", "0: 3").reads("5 - 3 - 1", "0: 1").reads("5 - 3 + 1", "0: 3")
            .reads("'a' || 'b' || 'c'", "1: 'abc'")
            .breaks("1 +^", "^+ 1", "1 + ^+ 1", "1 ||^", "^|| 'a'", "'a' || ^|| 'b'", "1 -^", "1 + ^* 1", "1 + ^= 1");
    }

    private static void products() {
        Edge.of("T: U {(* | / | %) U}.").reads("20 / 5 * 2", "0: 8").reads("20 % 7 * 2", "0: 12").reads("2 + 3 * 4", "0: 14")
            .reads("2 * 3 + 4", "0: 10").reads("100 / 10 / 5", "0: 2")
            .breaks("1 *^", "^* 1", "1 * ^* 1", "1 /^", "^/ 1", "1 %^", "^% 1", "1 * ^+ 1");
    }

    private static void signsInFront() {
        Edge.of("U: - U | P.").reads("-3", "0: -3").reads("- -3", "0: 3").reads("-(-3)", "0: 3").reads("2 * -3", "0: -6")
            .reads("2 - -3", "0: 5").reads("-2 * 3", "0: -6").reads("-7 % 4", "0: -3").reads("-a", "0: -7")
            .reads("-abs(3)", "0: -3").reads("- case when true then 3 end", "0: -3")
            .breaks("-^", "- -^", "- ^+ 3", "- ^not true", "^+ 3", "- ^)", "- ^* 3");
    }

    private static void parentheses() {
        Edge.of("P: ( X )").reads("(3)", "0: 3").reads("(true or true) and false", "2: FALSE").reads("(2 + 3) * 4", "0: 20")
            .reads("((3))", "0: 3")
            .breaks("(^", "(^)", "^)", "(3^", "3^)", "(3)^)", "((3)^", "(3 ^4)", "(3^, 4)", "(^,)", "(3 +^)");
    }

    private static void functions() {
        Edge.of("P: NAME ( [X {, X}] )").reads("f()", "error 2: error 2").reads("f(1)", "error 2: error 2")
            .reads("abs(3)", "0: 3").reads("nullif(true or true, false)", "2: TRUE").breaks("f(^", "f(1^", "f(1,^", "f(^,)",
                "f(^,1)", "f(1,^)", "f(1,^,1)", "f(1 ^1)", "f()^)", "f() ^()", "f(1)^(1)", "f(^*)", "f(1^;");
    }

    private static void choices() {
        Edge.of("P: CASE WHEN X THEN X {WHEN X THEN X} [ELSE X] END").reads("case when true then 1 end", "0: 1")
            .reads("case when false then 1 when true then 2 end", "0: 2").reads("case when false then 1 else 3 end", "0: 3")
            .reads("case when false then 1 end is null", "2: TRUE").reads("case when true or false then 1 end + 1", "0: 2")
            .breaks("case^", "case ^end", "case ^else 1 end", "case ^true when true then 1 end", "case ^then 1 end",
                "case when^", "case when ^then 1 end", "case when true^", "case when true ^end", "case when true ^1 end",
                "case when true ^when", "case when true then^", "case when true then ^end",
                "case when true then ^when true then 1 end", "case when true then 1^", "case when true then 1 ^then 2 end",
                "case when true then 1 ^2 end", "case when true then 1 else^", "case when true then 1 else ^end",
                "case when true then 1 else 2^", "case when true then 1 else 2 ^else 3 end",
                "case when true then 1 else 2 ^when true then 3 end", "case when true then 1 end ^end", "^when true then 1 end",
                "case when true ^, 1 end", "(case when true then 1 ^)");
    }

    /** One X is open from the beginning on, so 29 more may be. */
    private static void openX() {
        for (String[] opener : OPENERS) {
            String most = (opener[0] + opener[1]).repeat(29);
            String text = most + "a" + opener[2].repeat(29);
            Edge.of("At most 30 X open at a time (the first sign of one more)").reads(text, shown(text))
                .breaks(most + opener[0] + "^" + opener[1] + "a" + opener[2].repeat(30), most + opener[0] + " --\n^$",
                    most + opener[0] + "^not", most + opener[0] + "^(", most + opener[0] + "^", most + "(^a", most + "f(^a)",
                    most + "f(^,", most + "1 + a in (^a)", most + "case when ^a", most + "^not a", most + "1 + ^- a");
        }
        String whens = "case when a then 1 when a then 1 else 1 end";
        Edge.of("At most 30 X open at a time").reads("(".repeat(28) + whens + ")".repeat(28), "error 1: error 1")
            .breaks("(".repeat(29) + "case when ^a then 1 when a then 1 else 1 end");
    }

    private static void openNot() {
        String most = "not ".repeat(29);
        Edge.of("At most 30 NOT open at a time (the NOT)").reads(most + "true", "2: FALSE")
            .reads("not ".repeat(28) + "true", "2: TRUE").reads("not ".repeat(28) + "(true)", "2: TRUE")
            .reads("not ".repeat(28) + "7 in (7)", "2: TRUE").reads(most + "f() = 1 + 2 * 3", "error 2: error 2")
            .reads(most + "7 not between 1 and 2", "2: FALSE").reads(most + "7 is not null", "2: FALSE")
            .breaks(most + "^not true", most + "^not", most + "^not $", most + "(^true)", most + "a in (^true)",
                most + "abs(^1)", most + "case when ^true", most + "^- 1", most + "1 + ^- 1", most + "a = ^- 1",
                most + "a between ^- 1 and 2", most + "a between 1 and ^- 2", most + "a like ^- 1",
                "not ".repeat(28) + "(^not true)");
    }

    private static void openMinus() {
        String most = "- ".repeat(29);
        Edge.of("At most 30 - in front open at a time (the -)").reads(most + "3", "0: -3").reads("- ".repeat(28) + "3", "0: 3")
            .reads("- ".repeat(28) + "(3)", "0: 3").reads("- ".repeat(28) + "abs(3)", "0: 3")
            .reads(most + "f()", "error 2: error 2").breaks(most + "^- 3", most + "^-", most + "^- $", most + "(^3)",
                most + "abs(^3)", most + "case when ^true", "- ".repeat(28) + "(^-3)", "1 + " + most + "^- 3",
                "1 * " + most + "^- 3", "1 = " + most + "^- 3", "a between 1 and " + most + "^- 3",
                "a in (" + "- ".repeat(28) + "^- 3)");
    }

    private static void openMixed() {
        String sentence = "At most 30 X, NOT and - in front open at a time";
        for (String[] opener : OPENERS) {
            for (String inFront : new String[] {"not ", "- "}) {
                for (int k : new int[] {1, 10, 28}) {
                    String text = (opener[0] + opener[1]).repeat(29 - k) + inFront.repeat(k);
                    String rest = opener[2].repeat(29 - k);
                    int length = text.length();
                    Due.same(sentence + " | " + text + "a" + rest, new Bench().read(text + "a" + rest), length + 1 + rest.length());
                    Due.same(sentence + " | " + text + "f()" + rest, new Bench().read(text + "f()" + rest),
                        length + 3 + rest.length());
                    Due.same(sentence + " | " + text + inFront, new Bench().read(text + inFront + "a" + rest), "broken " + length);
                    Due.same(sentence + " | " + text + "(a)", new Bench().read(text + "(a)" + rest), "broken " + (length + 1));
                }
            }
        }
        String most = "(not - ".repeat(9) + "(- ";
        Edge.of(sentence).reads(most + "3" + ")".repeat(10), "error 1: error 1").breaks(most + "^- 3", most + "(^3",
                "(not - ".repeat(9) + "(not ^not true", "not ".repeat(10) + "- ".repeat(19) + "^- 3");
    }

    /** What is closed is open no more. */
    private static void openNoMore() {
        String deep = "(".repeat(29) + "1" + ")".repeat(29);
        String nots = "not ".repeat(29) + "true";
        Edge.of("open at a time").reads((deep + "+").repeat(15) + deep, "0: 16").reads("(1)+".repeat(200) + "1", "0: 201")
            .reads(deep + "- " + "- ".repeat(29) + "1", "0: 2").reads(nots + " or " + nots + " or " + nots, "2: FALSE")
            .reads("- ".repeat(29) + "1" + (" - " + "- ".repeat(29) + "1").repeat(3), "0: 2")
            .reads("- ".repeat(29) + "1 in (-1)", "2: TRUE").reads("1 in (1) and " + nots, "2: FALSE")
            .reads("- ".repeat(29) + "1 = " + "- ".repeat(29) + "1", "2: TRUE")
            .reads("- ".repeat(29) + "1 between " + "- ".repeat(29) + "1 and " + "- ".repeat(29) + "1", "2: TRUE")
            .reads("case when " + "not ".repeat(28) + "true then " + "- ".repeat(28) + "3 else " + "- ".repeat(28) + "4 end",
                "0: 3").reads("nullif(" + "- ".repeat(28) + "3, " + "- ".repeat(28) + "4)", "0: 3")
            .breaks("(".repeat(30) + "^1", "1+(" + "(".repeat(29) + "^1", nots + " or " + "not ".repeat(29) + "^not true",
                deep + "- " + "- ".repeat(29) + "^- 1");
    }

    private static void openAndWorkedOut() {
        Edge.of("At most 30 X open at a time, and worked out").reads("abs(".repeat(29) + "3" + ")".repeat(29), "0: 3")
            .reads("coalesce(null,".repeat(29) + "3" + ")".repeat(29), "0: 3")
            .reads("true in (".repeat(29) + "true" + ")".repeat(29), "2: TRUE")
            .reads("nullif(".repeat(29) + "3" + ",1)".repeat(29), "0: 3")
            .reads("case when ".repeat(29) + "true" + " then true end".repeat(29), "2: TRUE")
            .reads("case when true then ".repeat(29) + "3" + " end".repeat(29), "0: 3")
            .reads("1-(".repeat(29) + "1" + ")".repeat(29), "0: 0")
            .reads("'x'||(".repeat(29) + "'x'" + ")".repeat(29), "1: '" + "x".repeat(30) + "'")
            .reads("substr('ab',1,length(".repeat(14) + "'x'" + "))".repeat(14), "1: 'a'");
    }

    /** As many values as the tape has room for wait for the innermost X, and each of them counts in the end. */
    private static void openWithMostValues() {
        String in = "d or c and c in(";
        Edge edge = Edge.of("At most 30 X open at a time, with all that waits for the last of them")
            .reads(in.repeat(29) + "d or c and 0 between 0 and 0+1*2" + ")".repeat(29), "2: TRUE")
            .reads(in.repeat(29) + "d or c and 3 between 0 and 0+1*2" + ")".repeat(29), "2: FALSE");
        for (int k = 0; k < 29; k++) {
            edge.reads(in.repeat(k) + "d or c and c not in(" + in.repeat(28 - k) + "c" + ")".repeat(29), "2: FALSE")
                .reads(in.repeat(k) + "c or c and c in(" + in.repeat(28 - k) + "d" + ")".repeat(29), "2: TRUE");
        }
        String between = "d or c and c between d and nullif(c,";
        edge.reads(in.repeat(5) + between.repeat(24) + "c" + ")".repeat(29), "2: TRUE")
            .reads(in.repeat(5) + between.repeat(24) + "d" + ")".repeat(29), "2: NULL")
            .reads(in.repeat(6) + between.repeat(23) + "c" + ")".repeat(29), "2: NULL")
            .reads(between.repeat(23) + in.repeat(6) + "c" + ")".repeat(29), "2: NULL");
    }

    private static void eightInList() {
        Edge.of("At most 8 X in ( ) of IN (the first sign of the next one)").reads("7 in (1,2,3,4,5,6,8,7)", "2: TRUE")
            .reads("7 not in (1,2,3,4,5,6,8,9)", "2: TRUE").reads("7 in (1,2,3,4,5,6,7)", "2: TRUE")
            .reads("7 in (7)", "2: TRUE").reads("7 in (1,2,3,4,5,6,8,7) and 7 in (1,2,3,4,5,6,8,7)", "2: TRUE")
            .reads("true in (7 in (1,2,3,4,5,6,8,7), false,false,false,false,false,false,false)", "2: TRUE")
            .breaks("7 in (^)", "7 in (1,2,3,4,5,6,7,8,^9)", "7 in (1,2,3,4,5,6,7,8, ^-9)", "7 in (1,2,3,4,5,6,7,8,^)",
                "7 in (1,2,3,4,5,6,7,8,^", "7 in (1,2,3,4,5,6,7,8^", "7 in (1,2,3,4,5,6,7,8,\n --9\n^$",
                "7 in (1,2,3,4,5,6,7,8 ^9)", "7 not in (1,2,3,4,5,6,7,8,^(9))", "7 in (1,2,3,4,5,6,7,8,^not true, 10)",
                "7 in (1,2,3,4,5,6,7,7 in (1,2,3,4,5,6,7,8,^9))");
    }

    private static void eightInFunction() {
        String eight = "coalesce(null,null,null,null,null,null,null,3)";
        Edge.of("At most 8 X in ( ) of a FUNCTION (the first sign of the next one)").reads(eight, "0: 3")
            .reads("f(1,2,3,4,5,6,7,8)", "error 2: error 2").reads("coalesce(null," + eight + ",1,1,1,1,1,1)", "0: 3")
            .reads(eight + "+" + eight, "0: 6").reads("coalesce(3)", "0: 3").reads("f()", "error 2: error 2")
            .breaks("coalesce(1,2,3,4,5,6,7,8,^9)", "f(1,2,3,4,5,6,7,8,^9)", "abs(1,2,3,4,5,6,7,8, ^f())",
                "f(1,2,3,4,5,6,7,8,^)", "f(1,2,3,4,5,6,7,8,^", "f(1,f(1,2,3,4,5,6,7,8,^9))", "f(f(1),2,3,4,5,6,7,8,^9)",
                "f(1,2,3,4,5,6,7,8,^,9)", "f(1,2,3,4,5,6,7,8 ^9)");
    }

    private static void nineteenWhens() {
        String eighteen = "case" + " when false then 1".repeat(18);
        String nineteen = eighteen + " when true then 2";
        String inner = "case" + " when c then 1".repeat(19) + " end";
        Edge.of("At most 19 WHEN (the first sign of the next one)").reads(eighteen + " end", "0: NULL")
            .reads(nineteen + " end", "0: 2").reads(nineteen + " else 3 end", "0: 2")
            .reads(eighteen + " when false then 2 else 3 end", "0: 3").reads(inner + "+" + inner, "0: 2")
            .reads("case when true then " + inner + " else " + inner + " end", "0: 1")
            .breaks(nineteen + " ^when true then 3 end", nineteen + " ^when", nineteen + " ^when true then 3 else 4 end",
                nineteen + "^", nineteen + " else^", nineteen + " else 3 ^when true then 4 end", nineteen + " ^then 1",
                "1 + " + nineteen + "\n--\n^WHEN 1 2 3");
    }

    private static void threeHundredOfOne() {
        String sentence = "At most 300 signs and words OR AND + - || * / % (the first sign of the next one)";
        for (String sign : new String[] {"+", "-", "||", "*", "/", "%"}) {
            String most = ("a" + sign).repeat(300) + "a";
            Edge.of(sentence).reads(most, shown(most)).breaks(most + "^" + sign + "a", most + " ^" + sign,
                    most + " ^" + sign + " $", most + " ^or a", most + " ^and a");
        }
        Edge.of(sentence).reads("1+".repeat(300) + "1", "0: 301").reads("1-".repeat(300) + "1", "0: -299")
            .reads("1*".repeat(300) + "1", "0: 1").reads("''||".repeat(240) + "''", "1: ''")
            .breaks("1+".repeat(300) + "^", "1+".repeat(300) + "1^+");
    }

    /** The words alone would take more than 1000 bytes. */
    private static void threeHundredOfAll() {
        String sentence = "300 signs and words OR AND + - || * / %, all of a text together";
        String most = "1or ".repeat(100) + "1and ".repeat(50) + "1+".repeat(150) + "1 ";
        Edge.of(sentence).reads(most, "error 1: error 1").reads(most + "= 1", "error 1: error 1")
            .breaks(most + "^or 1", most + "^and 1", most + "^+ 1", most + "^- 1", most + "^|| 1", most + "^* 1", most + "^/ 1",
                most + "^% 1", most + "= 1 ^or 1", most + "= 1 ^+ 1");
        Edge.of(sentence).reads("(1+0)*".repeat(150) + "3", "0: 3").reads("1*1+".repeat(150) + "1", "0: 151")
            .reads("coalesce(" + "1+".repeat(149) + "1," + "1+".repeat(151) + "1)", "0: 150")
            .breaks("(1+0)*".repeat(150) + "3^+1", "1*1+".repeat(150) + "1^*1",
                "coalesce(" + "1+".repeat(150) + "1," + "1+".repeat(150) + "1^+1)", "(" + "1+".repeat(300) + "1)^*1");
    }

    private static void notAmongThreeHundred() {
        String most = "1" + "+1".repeat(300);
        Edge.of("- in front, the AND of BETWEEN, comparisons and NOT are none of the 300")
            .reads("1+".repeat(300) + "-1", "0: 299").reads("- 1" + "-1".repeat(300), "0: -301")
            .reads("300 between 1 and " + most, "2: TRUE").reads("not " + most + " <> 301", "2: TRUE")
            .reads(most + " not in (301, 302)", "2: FALSE").reads(most + " is not null", "2: TRUE")
            .breaks("- 1" + "-1".repeat(300) + "^-1", "300 between 1 and " + most + "^+1",
                "300 between 1 and " + most + " ^and true");
    }
}
