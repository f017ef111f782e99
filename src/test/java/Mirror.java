import java.math.BigInteger;
import java.util.ArrayList;
import java.util.List;
import java.util.Locale;
import java.util.Set;

/**
 * The document once more, written in another way: all signs first, then a tree, then the tree is
 * checked and worked out by recursion, with Strings and BigIntegers.
 */
final class Mirror {
    static final class Broken extends RuntimeException {
        private static final long serialVersionUID = 1;
        final int place;

        Broken(int place) {
            this.place = place;
        }
    }

    static final class Failed extends RuntimeException {
        private static final long serialVersionUID = 1;
        final int error;

        Failed(int error) {
            this.error = error;
        }
    }

    /** What it is, its parts from the left, and for a leaf its value: BigInteger, String, Boolean, null. */
    static final class Node {
        final String what;
        final List<Node> parts = new ArrayList<>();
        Object leaf;

        Node(String what, Node... parts) {
            this.what = what;
            this.parts.addAll(List.of(parts));
        }
    }

    private record Token(String sort, String spelling, int place) {
    }

    private static final Set<String> WORDS = Set.of("or", "and", "not", "is", "null", "in", "like", "between", "case", "when",
        "then", "else", "end", "true", "false");
    private static final BigInteger MOST = BigInteger.TWO.pow(53).subtract(BigInteger.ONE);

    final int[] kinds = new int[8];
    final Object[] registers = new Object[8];
    private List<Token> tokens;
    private int at;
    private int open;
    private int operators;

    // ---- reading

    Node read(String text) {
        tokens = tokensOf(text);
        at = 0;
        open = 0;
        operators = 0;
        Node x = readX();
        expect("end of text");
        return x;
    }

    private static List<Token> tokensOf(String text) {
        List<Token> found = new ArrayList<>();
        int p = 0;
        while (p < text.length()) {
            String rest = text.substring(p);
            char c = rest.charAt(0);
            int length = 1;
            if (rest.startsWith("--")) {
                length = rest.indexOf('\n') < 0 ? rest.length() : rest.indexOf('\n') + 1;
            } else if (" \t\n\r".indexOf(c) < 0) {
                length = addToken(found, rest, p);
            }
            p += length;
        }
        found.add(new Token("end of text", "", text.length()));
        return found;
    }

    private static int addToken(List<Token> found, String rest, int p) {
        String word = match(rest, "[A-Za-z_][A-Za-z_0-9]*");
        String digits = match(rest, "[0-9]+");
        String quoted = match(rest, "'(?:[ -&(-~]|'')*+'");
        String mark = match(rest, "<>|<=|>=|\\|\\||[-=<>+*/%(),]");
        if (word != null) {
            String small = word.toLowerCase(Locale.ROOT);
            found.add(new Token(word.length() > 20 ? "bad" : WORDS.contains(small) ? small : "name", small, p));
            return word.length();
        }
        if (digits != null) {
            found.add(new Token(new BigInteger(digits).compareTo(MOST) > 0 ? "bad" : "integer", digits, p));
            return digits.length();
        }
        if (quoted != null) {
            String plain = quoted.substring(1, quoted.length() - 1).replace("''", "'");
            found.add(new Token(plain.length() > 40 ? "bad" : "characters", plain, p));
            return quoted.length();
        }
        found.add(new Token(mark == null ? "bad" : mark, "", p));
        return mark == null ? 1 : mark.length();
    }

    private static String match(String text, String pattern) {
        java.util.regex.Matcher m = java.util.regex.Pattern.compile(pattern).matcher(text);
        return m.lookingAt() ? m.group() : null;
    }

    private boolean is(String sort) {
        return tokens.get(at).sort.equals(sort);
    }

    private boolean accept(String sort) {
        if (is(sort)) {
            at++;
            return true;
        }
        return false;
    }

    private void expect(String sort) {
        if (!accept(sort)) {
            throw broken();
        }
    }

    private Broken broken() {
        return new Broken(tokens.get(at).place);
    }

    private void openOne() {
        open++;
        if (open > 30) {
            throw broken();
        }
    }

    private String operator(String... sorts) {
        for (String sort : sorts) {
            if (is(sort)) {
                operators++;
                if (operators > 300) {
                    throw broken();
                }
                at++;
                return sort;
            }
        }
        return null;
    }

    private Node readX() {
        openOne();
        Node left = readA();
        while (operator("or") != null) {
            left = new Node("or", left, readA());
        }
        open--;
        return left;
    }

    private Node readA() {
        Node left = readN();
        while (operator("and") != null) {
            left = new Node("and", left, readN());
        }
        return left;
    }

    private Node readN() {
        if (!is("not")) {
            return readC();
        }
        openOne();
        at++;
        Node inner = readN();
        open--;
        return new Node("not", inner);
    }

    private Node readC() {
        Node left = readS();
        for (String sign : new String[] {"=", "<>", "<", "<=", ">", ">="}) {
            if (accept(sign)) {
                return new Node(sign, left, readS());
            }
        }
        if (accept("is")) {
            boolean not = accept("not");
            expect("null");
            return negated(not, new Node("is null", left));
        }
        boolean not = accept("not");
        if (accept("in")) {
            Node in = new Node("in", left);
            expect("(");
            readList(in, in.parts.size());
            return negated(not, in);
        }
        if (accept("like")) {
            return negated(not, new Node("like", left, readS()));
        }
        if (accept("between")) {
            Node low = readS();
            expect("and");
            return negated(not, new Node("between", left, low, readS()));
        }
        if (not) {
            throw broken();
        }
        return left;
    }

    private static Node negated(boolean not, Node node) {
        return not ? new Node("not", node) : node;
    }

    private void readList(Node into, int before) {
        do {
            if (into.parts.size() - before == 8) {
                throw broken();
            }
            into.parts.add(readX());
        } while (accept(","));
        expect(")");
    }

    private Node readS() {
        Node left = readT();
        for (String sign = operator("+", "-", "||"); sign != null; sign = operator("+", "-", "||")) {
            left = new Node(sign, left, readT());
        }
        return left;
    }

    private Node readT() {
        Node left = readU();
        for (String sign = operator("*", "/", "%"); sign != null; sign = operator("*", "/", "%")) {
            left = new Node(sign, left, readU());
        }
        return left;
    }

    private Node readU() {
        if (!is("-")) {
            return readP();
        }
        openOne();
        at++;
        Node inner = readU();
        open--;
        return new Node("negate", inner);
    }

    private Node readP() {
        Token token = tokens.get(at);
        at++;
        switch (token.sort) {
            case "integer":
                return leaf(new BigInteger(token.spelling));
            case "characters":
                return leaf(token.spelling);
            case "true":
            case "false":
                return leaf(token.sort.equals("true"));
            case "null":
                return leaf(null);
            case "name":
                return readName(token);
            case "case":
                return readCase();
            case "(":
                Node x = readX();
                expect(")");
                return x;
            default:
                throw new Broken(token.place);
        }
    }

    private static Node leaf(Object value) {
        Node node = new Node("leaf");
        node.leaf = value;
        return node;
    }

    private Node readName(Token name) {
        if (accept("(")) {
            Node call = new Node("call " + name.spelling);
            if (!accept(")")) {
                readList(call, 0);
            }
            return call;
        }
        if (!name.spelling.matches("[a-h]")) {
            throw new Broken(name.place);
        }
        Node node = new Node("register");
        node.leaf = name.spelling.charAt(0) - 'a';
        return node;
    }

    private Node readCase() {
        Node node = new Node("case");
        if (!is("when")) {
            throw broken();
        }
        while (is("when")) {
            if (node.parts.size() == 38) {
                throw broken();
            }
            at++;
            node.parts.add(readX());
            expect("then");
            node.parts.add(readX());
        }
        node.parts.add(accept("else") ? readX() : leaf(null));
        expect("end");
        return node;
    }

    // ---- types

    private static int kindOf(Object value) {
        return value == null ? 3 : value instanceof BigInteger ? 0 : value instanceof String ? 1 : 2;
    }

    int kind(Node node) {
        int[] of = new int[node.parts.size()];
        for (int k = 0; k < of.length; k++) {
            of[k] = kind(node.parts.get(k));
        }
        switch (node.what) {
            case "leaf":
                return kindOf(node.leaf);
            case "register":
                return kinds[(Integer) node.leaf];
            case "+": case "-": case "*": case "/": case "%": case "negate":
                return typed(0, of, 0, 0);
            case "||":
                return typed(1, of, 1, 1);
            case "like":
                return typed(2, of, 1, 1);
            case "and": case "or": case "not":
                return typed(2, of, 2, 2);
            case "is null":
                return 2;
            case "case":
                return kindOfCase(of);
            default:
                if (node.what.startsWith("call ")) {
                    return kindOfCall(node.what.substring(5), of);
                }
                same(of);
                return 2;
        }
    }

    private static int typed(int result, int[] of, int... due) {
        for (int k = 0; k < of.length; k++) {
            if (of[k] != 3 && of[k] != due[k]) {
                throw new Failed(1);
            }
        }
        return result;
    }

    private static int same(int[] of) {
        int kind = 3;
        for (int one : of) {
            if (one != 3 && kind != 3 && one != kind) {
                throw new Failed(1);
            }
            kind = one == 3 ? kind : one;
        }
        return kind;
    }

    private static int kindOfCase(int[] of) {
        int[] results = new int[of.length / 2 + 1];
        for (int k = 0; k < of.length - 1; k++) {
            if (k % 2 == 1) {
                results[k / 2] = of[k];
            } else if (of[k] != 3 && of[k] != 2) {
                throw new Failed(1);
            }
        }
        results[of.length / 2] = of[of.length - 1];
        return same(results);
    }

    private static int kindOfCall(String name, int[] of) {
        switch (name + " " + of.length) {
            case "abs 1":
                return typed(0, of, 0);
            case "length 1":
                return typed(0, of, 1);
            case "upper 1": case "lower 1":
                return typed(1, of, 1);
            case "substr 3":
                return typed(1, of, 1, 0, 0);
            case "nullif 2":
                return same(of);
            default:
                if (name.equals("coalesce") && of.length > 0) {
                    return same(of);
                }
                throw new Failed(2);
        }
    }

    // ---- working out

    Object work(Node node) {
        List<Node> p = node.parts;
        switch (node.what) {
            case "leaf":
                return node.leaf;
            case "register":
                return registers[(Integer) node.leaf];
            case "or":
                return or(work(p.get(0)), p.get(1));
            case "and":
                return not(or(not(work(p.get(0))), new Node("not", p.get(1))));
            case "not":
                return not(work(p.get(0)));
            case "is null":
                return work(p.get(0)) == null;
            case "in":
                return in(p);
            case "between":
                return between(p);
            case "case":
                return choice(p);
            case "call coalesce":
                return p.stream().map(this::work).filter(v -> v != null).findFirst().orElse(null);
            case "call nullif":
                Object first = work(p.get(0));
                return Boolean.TRUE.equals(strict("=", first, work(p.get(1)))) ? null : first;
            default:
                return strict(node.what, p.stream().map(this::work).toArray());
        }
    }

    private Object or(Object left, Node rightSide) {
        if (Boolean.TRUE.equals(left)) {
            return true;
        }
        Object right = work(rightSide);
        return Boolean.TRUE.equals(right) ? (Object) true : left == null ? null : right;
    }

    private static Object not(Object truth) {
        return truth == null ? null : (Object) !((Boolean) truth);
    }

    private Object in(List<Node> parts) {
        Object x = work(parts.get(0));
        boolean unknown = false;
        for (Node part : parts.subList(1, parts.size())) {
            Object equal = strict("=", x, work(part));
            if (Boolean.TRUE.equals(equal)) {
                return true;
            }
            unknown |= equal == null;
        }
        return unknown ? null : (Object) false;
    }

    private Object between(List<Node> parts) {
        Object x = work(parts.get(0));
        Object enough = strict(">=", x, work(parts.get(1)));
        if (Boolean.FALSE.equals(enough)) {
            return false;
        }
        Object little = strict("<=", x, work(parts.get(2)));
        return Boolean.FALSE.equals(little) ? (Object) false : enough == null ? null : little;
    }

    private Object choice(List<Node> parts) {
        for (int k = 0; k + 1 < parts.size(); k += 2) {
            if (Boolean.TRUE.equals(work(parts.get(k)))) {
                return work(parts.get(k + 1));
            }
        }
        return work(parts.get(parts.size() - 1));
    }

    private static Object strict(String what, Object... v) {
        for (Object one : v) {
            if (one == null) {
                return null;
            }
        }
        switch (what) {
            case "+":
                return limited(((BigInteger) v[0]).add((BigInteger) v[1]));
            case "-":
                return limited(((BigInteger) v[0]).subtract((BigInteger) v[1]));
            case "*":
                return limited(((BigInteger) v[0]).multiply((BigInteger) v[1]));
            case "/":
                return divided(v)[0];
            case "%":
                return divided(v)[1];
            case "negate":
                return ((BigInteger) v[0]).negate();
            case "call abs":
                return ((BigInteger) v[0]).abs();
            case "call length":
                return BigInteger.valueOf(((String) v[0]).length());
            case "call upper":
                return ((String) v[0]).toUpperCase(Locale.ROOT);
            case "call lower":
                return ((String) v[0]).toLowerCase(Locale.ROOT);
            case "call substr":
                return substr((String) v[0], (BigInteger) v[1], (BigInteger) v[2]);
            case "||":
                return joined((String) v[0] + v[1]);
            case "like":
                return like((String) v[0], (String) v[1]);
            default:
                return compared(what, v);
        }
    }

    private static BigInteger limited(BigInteger v) {
        if (v.abs().compareTo(MOST) > 0) {
            throw new Failed(4);
        }
        return v;
    }

    private static BigInteger[] divided(Object[] v) {
        if (((BigInteger) v[1]).signum() == 0) {
            throw new Failed(3);
        }
        return ((BigInteger) v[0]).divideAndRemainder((BigInteger) v[1]);
    }

    private static String joined(String text) {
        if (text.length() > 40) {
            throw new Failed(5);
        }
        return text;
    }

    private static String substr(String s, BigInteger i, BigInteger n) {
        if (n.signum() < 0) {
            throw new Failed(6);
        }
        StringBuilder found = new StringBuilder();
        for (int k = 1; k <= s.length(); k++) {
            BigInteger place = BigInteger.valueOf(k);
            if (place.compareTo(i) >= 0 && place.compareTo(i.add(n)) < 0) {
                found.append(s.charAt(k - 1));
            }
        }
        return found.toString();
    }

    private static boolean like(String s, String pattern) {
        if (pattern.isEmpty()) {
            return s.isEmpty();
        }
        String rest = pattern.substring(1);
        if (pattern.charAt(0) == '%') {
            return like(s, rest) || !s.isEmpty() && like(s.substring(1), pattern);
        }
        return !s.isEmpty() && (pattern.charAt(0) == '_' || pattern.charAt(0) == s.charAt(0)) && like(s.substring(1), rest);
    }

    private static boolean compared(String sign, Object[] v) {
        int order = v[0] instanceof BigInteger i ? i.compareTo((BigInteger) v[1])
            : v[0] instanceof String s ? s.compareTo((String) v[1]) : ((Boolean) v[0]).compareTo((Boolean) v[1]);
        switch (sign) {
            case "=":
                return order == 0;
            case "<>":
                return order != 0;
            case "<":
                return order < 0;
            case "<=":
                return order <= 0;
            case ">":
                return order > 0;
            case ">=":
                return order >= 0;
            default:
                throw new IllegalStateException("no sign " + sign);
        }
    }
}
