import java.math.BigInteger;
import java.util.Random;

/** Texts made by chance from fixed seeds: the class and its mirror answer the same. */
final class MirrorTest {
    private static final String[] CHAFF = {"or", "and", "not", "is", "null", "in", "like", "between", "case", "when", "then",
        "else", "end", "true", "false", "a", "b", "c", "(", ")", ",", "+", "-", "||", "*", "/", "%", "=", "<", ">", "<>", "1",
        "'x'", "abs", "abs(", "z", "$", "|", "'", "--", "\n", "9007199254740992", "\200", "_", "coalesce(", "!", "'\t'"};
    private static final String[] COMPARISONS = {"=", "<>", "<", "<=", ">", ">="};
    private static final String[] INTS = {"0", "1", "2", "3", "7", "40", "9007199254740991", "94906266", "a", "d", "a", "h"};
    private static final String[] TEXTS = {"''", "'a'", "'ab'", "'b%'", "'_b'", "'%a%'", "'it''s'", "'0123456789012345678'", "b",
        "e", "b", "'Hello'"};
    private static final String[] OPENERS = {"(@)", "not @", "(- @)", "coalesce(c,@)", "c in (@)", "c or (@)", "c=(@)",
        "case when @ then c end", "c and (c between c and (@))", "nullif(@,f)", "case when c then @ end", "(@) is null"};
    private static final String[] WIDE = {"+", "-", "*", "/", "%", "+", "-", "+0*", "=a or ", "-a-"};
    private static final String[] BOOLS = {"true", "false", "c", "f", "c"};

    private final Random chance;
    private final Bench bench = new Bench();
    private final Mirror mirror = new Mirror();
    private Mirror.Node x = null;
    private Object value = null;
    private static int[] seen = new int[12];

    private MirrorTest(long seed) {
        chance = new Random(seed);
    }

    public static void main(String[] args) {
        int runs = args.length > 0 ? Integer.parseInt(args[0]) : 5000;
        for (int seed = 0; seed < runs; seed++) {
            new MirrorTest(seed).run(seed);
        }
        System.out.println("worked out " + seen[0] + " (NULL " + seen[7] + "), errors 1 to 6: " + seen[1] + " " + seen[2] + " " + seen[3] + " "
            + seen[4] + " " + seen[5] + " " + seen[6] + ", broken " + seen[8]);
        for (int k = 0; k <= 8; k++) {
            Due.same("there were answers of sort " + k, seen[k] > 0, true);
        }
        Due.finish("MirrorTest");
    }

    private void run(int seed) {
        for (int k = 0; k < 10; k++) {
            setRegisters();
            String text = text();
            if (text.length() <= 1000) {
                String answer = readBoth(text);
                Due.same("seed " + seed + " read " + text, bench.read(text), answer);
            }
            if (x != null) {
                String shown = "seed " + seed + " X of " + text;
                Due.same("kind, " + shown, bench.kind(), mirrorKind());
                Due.same("work, " + shown, bench.work(), mirrorWork());
                keepBoth(shown);
            }
        }
    }

    private String readBoth(String text) {
        try {
            x = mirror.read(text);
            return String.valueOf(text.length());
        } catch (Mirror.Broken broken) {
            seen[8]++;
            return "broken " + broken.place;
        }
    }

    private String mirrorKind() {
        try {
            return String.valueOf(mirror.kind(x));
        } catch (Mirror.Failed failed) {
            return "error " + failed.error;
        }
    }

    private String mirrorWork() {
        try {
            mirror.kind(x);
            value = mirror.work(x);
            seen[value == null ? 7 : 0]++;
            return shown(value);
        } catch (Mirror.Failed failed) {
            seen[failed.error]++;
            return "error " + failed.error;
        }
    }

    private static String shown(Object value) {
        if (value == null) {
            return "NULL";
        }
        return value instanceof String ? "'" + value + "'" : value.toString().toUpperCase();
    }

    private void keepBoth(String shown) {
        int r = chance.nextInt(8);
        int kind = value == null ? 3 : value instanceof BigInteger ? 0 : value instanceof String ? 1 : 2;
        boolean kept = kind == 3 || kind == mirror.kinds[r];
        Due.same("keep, " + shown, bench.keep(r), kept ? 1 : 0);
        if (kept) {
            mirror.registers[r] = value;
        }
    }

    /** Mostly a, d, g, h are INT, b, e TEXT and c, f BOOL, sometimes another. */
    private void setRegisters() {
        for (int r = 0; r < 8; r++) {
            int kind = chance.nextInt(40) == 0 ? chance.nextInt(3) : r == 6 || r == 7 ? 0 : r % 3;
            mirror.kinds[r] = kind;
            mirror.registers[r] = null;
            bench.bench.clear(r, kind);
            if (chance.nextInt(4) > 0) {
                fill(r, kind);
            }
        }
    }

    private void fill(int r, int kind) {
        if (kind == 1) {
            String text = "Hello, world, and all that is in it, too".substring(0, chance.nextInt(4) == 0 ? 40 : chance.nextInt(8));
            bench.text(r, text);
            mirror.registers[r] = text;
        } else {
            long v = kind == 2 ? chance.nextInt(2) : chance.nextInt(5) == 0 ? 9007199254740991L - chance.nextInt(3) : chance.nextInt(9) - 4;
            bench.bench.set(r, v);
            mirror.registers[r] = kind == 2 ? (Object) (v == 1) : BigInteger.valueOf(v);
        }
    }

    private String text() {
        int sort = chance.nextInt(10);
        if (sort == 0) {
            return chaff(1 + chance.nextInt(12));
        }
        if (sort == 3 && chance.nextBoolean()) {
            return chance.nextBoolean() ? deep(26 + chance.nextInt(8)) : wide(296 + chance.nextInt(8));
        }
        String good = x(1 + chance.nextInt(6), chance.nextInt(3));
        if (sort > 2) {
            return good;
        }
        int cut = chance.nextInt(good.length() + 1);
        int on = Math.min(good.length(), cut + chance.nextInt(4));
        return good.substring(0, cut) + chaff(chance.nextInt(3)) + good.substring(on);
    }

    /** So many X, NOT and - open at a time that it may be one too many. */
    private String deep(int opened) {
        StringBuilder before = new StringBuilder();
        StringBuilder behind = new StringBuilder();
        for (int k = 1; k < opened; k++) {
            String[] pair = one(OPENERS).split("@", 2);
            before.append(pair[0]);
            behind.insert(0, pair[1]);
        }
        return before + one(BOOLS) + behind;
    }

    /** So many operators that it may be one too many. */
    private String wide(int operators) {
        StringBuilder text = new StringBuilder("a");
        for (int k = 0; k < operators; k++) {
            text.append(one(WIDE)).append(chance.nextInt(20) == 0 ? "(a)" : "a");
        }
        return text.toString();
    }

    private String chaff(int signs) {
        StringBuilder text = new StringBuilder();
        for (int k = 0; k < signs; k++) {
            text.append(one(CHAFF)).append(chance.nextBoolean() ? " " : "");
        }
        return text.toString();
    }

    private String one(String[] of) {
        return of[chance.nextInt(of.length)];
    }

    /** An expression of the kind, now and then of another. */
    private String x(int depth, int due) {
        int kind = chance.nextInt(60) == 0 ? chance.nextInt(3) : due;
        if (depth <= 0 || chance.nextInt(9) == 0) {
            return chance.nextInt(12) == 0 ? "null" : one(kind == 0 ? INTS : kind == 1 ? TEXTS : BOOLS);
        }
        if (chance.nextInt(8) == 0) {
            return general(depth, kind);
        }
        return kind == 0 ? ofInt(depth) : kind == 1 ? ofText(depth) : ofBool(depth);
    }

    private String in(int depth, int kind) {
        String inner = x(depth - 1, kind);
        return chance.nextInt(4) == 0 ? inner : "(" + inner + ")";
    }

    private String list(int depth, int kind, int most) {
        StringBuilder text = new StringBuilder(x(depth - 1, kind));
        for (int k = chance.nextInt(most); k > 0; k--) {
            text.append(chance.nextBoolean() ? "," : " , ").append(x(depth - 1, kind));
        }
        return text.toString();
    }

    private String general(int depth, int kind) {
        switch (chance.nextInt(6)) {
            case 0:
                return "coalesce(" + list(depth, kind, 4) + ")";
            case 1:
                return "NULLIF(" + x(depth - 1, kind) + "," + x(depth - 1, kind) + ")";
            case 2:
                return chance.nextInt(8) == 0 ? "nosuch(" + list(depth, kind, 9) + ")" : in(depth, kind);
            default:
                StringBuilder text = new StringBuilder("case");
                for (int k = chance.nextInt(3); k >= 0; k--) {
                    text.append(" when ").append(x(depth - 1, 2)).append(" then ").append(x(depth - 1, kind));
                }
                return text.append(chance.nextBoolean() ? " else " + x(depth - 1, kind) : "").append(" end").toString();
        }
    }

    private String ofInt(int depth) {
        switch (chance.nextInt(9)) {
            case 0:
                return "- " + in(depth, 0);
            case 1:
                return "abs(" + x(depth - 1, 0) + ")";
            case 2:
                return "length(" + x(depth - 1, 1) + ")";
            default:
                return in(depth, 0) + one(new String[] {"+", " - ", "*", " / ", "%", " -- why\n + "}) + in(depth, 0);
        }
    }

    private String ofText(int depth) {
        switch (chance.nextInt(6)) {
            case 0:
                return "upper(" + x(depth - 1, 1) + ")";
            case 1:
                return "Lower(" + x(depth - 1, 1) + ")";
            case 2:
                return "substr(" + x(depth - 1, 1) + "," + x(depth - 1, 0) + "," + x(depth - 1, 0) + ")";
            default:
                return in(depth, 1) + "||" + in(depth, 1);
        }
    }

    private String ofBool(int depth) {
        int kind = chance.nextInt(3);
        String not = chance.nextInt(3) == 0 ? " not" : "";
        switch (chance.nextInt(10)) {
            case 0:
                return "not " + in(depth, 2);
            case 1:
                return in(depth, kind) + " is" + not + " null";
            case 2:
                return in(depth, kind) + not + " in (" + list(depth, kind, 5) + ")";
            case 3:
                return in(depth, 1) + not + " like " + in(depth, 1);
            case 4:
                return in(depth, kind) + not + " between " + in(depth, kind) + " and " + in(depth, kind);
            case 5:
            case 6:
                return in(depth, kind) + one(COMPARISONS) + in(depth, kind);
            default:
                return in(depth, 2) + one(new String[] {" and ", " OR "}) + in(depth, 2);
        }
    }
}
