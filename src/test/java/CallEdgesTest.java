import java.util.function.Consumer;

/** The edges of the calls, sentence by sentence: the tape, the registers, THE VALUE and what is counted. */
final class CallEdgesTest {
    private static final long MOST = 9007199254740991L;
    private static final int LEAST_INT = Integer.MIN_VALUE;
    private static final int GREATEST_INT = Integer.MAX_VALUE;
    private static final String FORTY = "0123456789abcdefghijABCDEFGHIJ~ !\"#$%&'(";

    public static void main(String[] args) {
        newObject();
        feedAtEachLength();
        feedToTheFullTape();
        feedOrderOfBytes();
        end();
        clear();
        setInt();
        setBool();
        setText();
        textLength();
        textBytes();
        textRegister();
        keepRegister();
        keepKind();
        valueWhat();
        valueOfTexts();
        countWhat();
        countPlace();
        countError();
        withoutX();
        theTapeIsReadByTwoCalls();
        calls512();
        readsAmong512();
        Due.finish("CallEdgesTest");
    }

    private static Consumer<Bench> worked(String text) {
        return x -> {
            State.filled(x);
            x.work(text);
            x.tape("tape");
        };
    }

    private static Consumer<Bench> fed(int length) {
        return x -> {
            State.filled(x);
            x.tape("x".repeat(length));
        };
    }

    private static String name(int r) {
        return State.NAMES.substring(r, r + 1);
    }

    private static void newObject() {
        String none = "IllegalStateException: IllegalStateException";
        Due.same("As said; no X.", State.after(x -> { }), "{bytes=0, place=-1, error=0, tape='', value=NULL, X=" + none
            + ", a=0: NULL, b=0: NULL, c=0: NULL, d=0: NULL, e=0: NULL, f=0: NULL, g=0: NULL, h=0: NULL}");
        Due.same("what the other edges begin with", State.after(State::filled),
            "{bytes=4, place=4, error=6, tape='tape', value='held',"
            + " X=0: 8, a=0: 7, b=1: 'hello', c=2: TRUE, d=2: FALSE, e=0: NULL, f=1: NULL, g=2: NULL, h=1: 'it's'}");
    }

    private static void feedAtEachLength() {
        for (int length = 0; length <= 1000; length++) {
            Bench x = new Bench();
            x.tape(" ".repeat(length));
            Due.same("The TAPE would have more than 1000 | feed behind " + length, x.feed(),
                length <= 980 ? length + 20 : "IndexOutOfBoundsException");
            Due.same("The TAPE would have more than 1000 | bytes then", x.count(0), length <= 980 ? length + 20 : length);
        }
    }

    private static void feedToTheFullTape() {
        String sentence = "It would have more than 1000: IndexOutOfBoundsException.";
        new Edge(sentence, fed(980)).answers(1000, "feed", Bench::feed, "bytes", 1000);
        new Edge(sentence, fed(981)).answers("IndexOutOfBoundsException", "feed", Bench::feed);
        new Edge(sentence, fed(1000)).answers("IndexOutOfBoundsException", "feed", Bench::feed);
        new Edge(sentence, fed(0)).answers(20, "feed", Bench::feed, "bytes", 20, "tape", "'abcdefghijklmnopqrst'");
        new Edge(sentence, fed(21)).answers("IndexOutOfBoundsException", "feed till it is refused",
                CallEdgesTest::feedTillRefused, "bytes", 981, "tape", "no TEXT");
        Bench x = new Bench();
        x.tape("1+".repeat(300) + " ".repeat(399) + "1");
        Due.same(sentence + " | feed", x.feed(), "IndexOutOfBoundsException");
        Due.same(sentence + " | all bytes stay", Bench.of(() -> x.bench.read()), 1000);
        Due.same(sentence + " | all bytes stay", x.work(), 301);
        Due.same(sentence + " | there is room again", x.feed(), 20);
    }

    private static Object feedTillRefused(Bench x) {
        String answer = x.feed();
        for (int k = 0; k < 60 && !answer.startsWith("Index"); k++) {
            answer = x.feed();
        }
        return answer;
    }

    private static void feedOrderOfBytes() {
        String sentence = "The 20 bytes of five ints, the highest of each first, come to the TAPE";
        for (int k = 0; k < 20; k++) {
            int[] ints = {0x20202020, 0x20202020, 0x20202020, 0x20202020, 0x20202020};
            ints[k / 4] ^= (0x20 ^ 0x7E) << 24 - k % 4 * 8;
            new Edge(sentence, x -> x.tape("'")).answers(21, "~ as byte " + k,
                    x -> x.bench.feed(ints[0], ints[1], ints[2], ints[3], ints[4]), "bytes", 21, "tape",
                    "''" + " ".repeat(k) + "~" + " ".repeat(19 - k) + "'");
        }
        Edge.of(sentence).answers(24, "feed -1", x -> x.bench.feed(-1, -1, -1, -1, -1), "bytes", 24, "tape", "no TEXT");
        Edge.of(sentence)
            .answers(4, "feed and end", x -> { x.bench.feed(-1, LEAST_INT, GREATEST_INT, 0, 1); return x.end(4); });
    }

    private static void end() {
        String sentence = "The TAPE keeps its first n bytes, n 0 .. its length. Answers n.";
        Edge.of(sentence).refuses("end -1", x -> x.end(-1)).refuses("end 5", x -> x.end(5))
            .refuses("end least", x -> x.end(LEAST_INT)).refuses("end greatest", x -> x.end(GREATEST_INT))
            .answers(4, "end 4", x -> x.end(4)).answers(0, "end 0", x -> x.end(0), "bytes", 0, "tape", "''")
            .answers(1, "end 1", x -> x.end(1), "bytes", 1, "tape", "'t'")
            .answers(3, "end 3", x -> x.end(3), "bytes", 3, "tape", "'tap'")
            .refuses("end 3 and 4", x -> { x.end(3); return x.end(4); }, "bytes", 3, "tape", "'tap'");
        new Edge(sentence + " Empty", x -> { }).answers(0, "end 0", x -> x.end(0)).refuses("end 1", x -> x.end(1))
            .refuses("end -1", x -> x.end(-1));
        new Edge(sentence + " Full", fed(1000)).answers(1000, "end 1000", x -> x.end(1000))
            .refuses("end 1001", x -> x.end(1001)).answers(999, "end 999", x -> x.end(999), "bytes", 999)
            .answers(40, "end 40", x -> x.end(40), "bytes", 40, "tape", "'" + "x".repeat(40) + "'");
    }

    private static void clear() {
        String sentence = "r 0 .. 7 (so for all), kind 0 .. 2: REGISTER r is of that KIND, and NULL.";
        String[] shown = {"0: NULL", "1: NULL", "2: NULL"};
        String[] shownX = {"0: NULL", "error 1: error 1", "error 1: error 1"};
        for (int kind = 0; kind <= 2; kind++) {
            int k = kind;
            Edge.of(sentence).answers("done", "clear 0 " + k, x -> x.clear(0, k), "a", shown[k], "X", shownX[k]);
            for (int r = 1; r <= 7; r++) {
                int register = r;
                Edge.of(sentence).answers("done", "clear " + r + " " + k, x -> x.clear(register, k), name(r), shown[k]);
            }
        }
        for (int wrong : new int[] {-1, 8, LEAST_INT, GREATEST_INT, 256}) {
            Edge.of(sentence).refuses("clear " + wrong + " 0", x -> x.clear(wrong, 0))
                .refuses("both", x -> x.clear(wrong, wrong));
        }
        for (int wrong : new int[] {-1, 3, LEAST_INT, GREATEST_INT, 256}) {
            Edge.of(sentence).refuses("clear 0 " + wrong, x -> x.clear(0, wrong)).refuses("clear 7", x -> x.clear(7, wrong));
        }
    }

    private static void setInt() {
        String sentence = "INT: v, at most 2^53 - 1 in size";
        for (long v : new long[] {MOST, -MOST, 0, 1, -1, MOST - 1, 2}) {
            Edge.of(sentence).answers("done", "set 4 " + v, x -> x.set(4, v), "e", "0: " + v);
        }
        for (long v : new long[] {MOST + 1, -MOST - 1, Long.MAX_VALUE, Long.MIN_VALUE, 1L << 62, -1L << 54}) {
            Edge.of(sentence).refuses("set 4 " + v, x -> x.set(4, v)).refuses("set 0 " + v, x -> x.set(0, v));
        }
        new Edge(sentence, x -> { }).answers("done", "set 7", x -> x.set(7, MOST), "h", "0: " + MOST)
            .refuses("set 7", x -> x.set(7, MOST + 1)).refuses("set 8", x -> x.set(8, 1)).refuses("set -1", x -> x.set(-1, 1))
            .refuses("set least", x -> x.set(LEAST_INT, 1)).refuses("set greatest", x -> x.set(GREATEST_INT, 1));
    }

    private static void setBool() {
        String sentence = "BOOL: v 0 or 1";
        Edge.of(sentence).answers("done", "set 6 0", x -> x.set(6, 0), "g", "2: FALSE")
            .answers("done", "set 6 1", x -> x.set(6, 1), "g", "2: TRUE")
            .answers("done", "set 2 0", x -> x.set(2, 0), "c", "2: FALSE")
            .answers("done", "set 3 1", x -> x.set(3, 1), "d", "2: TRUE");
        for (long v : new long[] {-1, 2, 1L << 32, (1L << 32) + 1, Long.MIN_VALUE, Long.MAX_VALUE, MOST}) {
            Edge.of(sentence).refuses("set 2 " + v, x -> x.set(2, v)).refuses("set 6 " + v, x -> x.set(6, v));
        }
    }

    private static void setText() {
        for (long v : new long[] {0, 1, -1, MOST, MOST + 1}) {
            Edge.of("of a TEXT IllegalArgumentException").refuses("set 1 " + v, x -> x.set(1, v))
                .refuses("of NULL", x -> x.set(5, v));
        }
    }

    private static void textLength() {
        String sentence = "The TAPE (empty then) is its TEXT; more than 40 bytes: IllegalArgumentException.";
        for (int n : new int[] {0, 1, 8, 39, 40}) {
            String text = FORTY.substring(0, n);
            Edge.of(sentence)
                .answers("done", "text of " + n, x -> x.text(1, text), "bytes", 0, "tape", "''", "b", "1: '" + text + "'")
                .answers("done", "of NULL", x -> x.text(5, text), "bytes", 0, "tape", "''", "f", "1: '" + text + "'");
        }
        for (int n : new int[] {41, 42, 60, 255, 256, 296, 1000}) {
            Edge.of(sentence).refuses("text of " + n, x -> x.text(1, "x".repeat(n)), "bytes", 0, "tape", "''");
        }
    }

    private static void textBytes() {
        String sentence = "CHARACTERS, bytes 32 .. 126; one that is no CHARACTER: IllegalArgumentException.";
        for (char c = 0; c < 256; c++) {
            boolean good = c >= 32 && c <= 126;
            for (String text : new String[] {"" + c, c + "x", "x" + c, "0123456789012345678" + c + "01234567890123456789"}) {
                Bench x = new Bench();
                x.clear(7, 1);
                Due.same(sentence + " | byte " + (int) c, x.text(7, text), good ? "done" : Edge.BAD);
                Due.same(sentence + " | the tape then", x.count(0), 0);
                Due.same(sentence + " | the register then", x.work("h"), good ? "'" + text + "'" : "NULL");
            }
        }
        for (char c : new char[] {31, 127, 128, 255, 0}) {
            Edge.of(sentence).refuses("byte " + (int) c, x -> x.text(1, "x" + c), "bytes", 0, "tape", "''");
        }
        Edge.of(sentence).answers("done", "bytes 32 and 126", x -> x.text(1, " ~"), "bytes", 0, "tape", "''", "b", "1: ' ~'");
    }

    private static void textRegister() {
        String sentence = "The TAPE (empty then, also if r is none); another KIND: IllegalArgumentException.";
        for (int r : new int[] {-1, 8, LEAST_INT, GREATEST_INT, 257, 0, 2, 3, 4, 6}) {
            Edge.of(sentence).refuses("text " + r, x -> x.text(r, "q"), "bytes", 0, "tape", "''")
                .refuses("empty", x -> x.text(r, ""), "bytes", 0, "tape", "''");
        }
        new Edge(sentence, x -> x.clear(0, 1)).answers("done", "text 0", x -> x.text(0, "q"), "a", "1: 'q'");
        Edge.of(sentence).answers("done", "text 7", x -> x.text(7, "q"), "bytes", 0, "tape", "''", "h", "1: 'q'");
    }

    private static void keepRegister() {
        String sentence = "keep: REGISTER r 0 .. 7";
        for (int wrong : new int[] {-1, 8, LEAST_INT, GREATEST_INT, 256}) {
            Edge.of(sentence).refuses("keep " + wrong, x -> x.keep(wrong));
            new Edge(sentence, x -> { }).refuses("keep " + wrong, x -> x.keep(wrong));
            new Edge(sentence, worked("null")).refuses("keep " + wrong, x -> x.keep(wrong));
        }
        new Edge(sentence, worked("6 * 7")).answers(1, "keep 0", x -> x.keep(0), "a", "0: 42");
        Edge.of(sentence).answers(1, "keep 7", x -> x.keep(7), "h", "1: 'held'");
        new Edge("(NULL at first.)", x -> x.set(7, 1)).answers(1, "keep 7", x -> x.keep(7), "h", "0: NULL");
        new Edge("(NULL at first.)", x -> { x.clear(1, 1); x.text(1, "x"); })
            .answers(1, "keep 1", x -> x.keep(1), "b", "1: NULL");
    }

    private static void keepKind() {
        String sentence = "of THE VALUE'S KIND: 1 (of any KIND if that is NULL); another KIND: 0.";
        String[][] values = {{"" + MOST, "-" + MOST, "0", "1"}, {"'" + FORTY.replace("'", "''") + "'", "''", "'x'"},
            {"true", "false"},
            {"null", "e", "f", "g", "null = 1"}};
        for (int kind = 0; kind <= 3; kind++) {
            for (String text : values[kind]) {
                Edge edge = new Edge(sentence, worked(text));
                String shown = new Bench().work(text);
                for (int r = 1; r < 8; r++) {
                    int register = r;
                    int itsKind = "01220121".charAt(r) - '0';
                    if (kind == itsKind || kind == 3) {
                        String held = kind == 3 ? "NULL" : shown;
                        edge.answers(1, "keep " + r + " of " + text, x -> x.keep(register), name(r), itsKind + ": " + held);
                    } else {
                        edge.answers(0, "keep " + r + " of " + text, x -> x.keep(register));
                    }
                }
            }
        }
    }

    private static void valueWhat() {
        String sentence = "value: what 0 .. 5.";
        for (String text : new String[] {"'held'", "null", "7", "true", "''"}) {
            for (int wrong : new int[] {-1, 6, LEAST_INT, GREATEST_INT, 0x20000000, 0x20000001}) {
                new Edge(sentence, worked(text)).refuses("value " + wrong, x -> x.value(wrong));
            }
        }
        for (String text : new String[] {"" + MOST, "-" + MOST, "-1", "0", "true", "false", "null", "e", "g"}) {
            String number = text.equals("true") ? "1" : text.matches("-?[0-9]+") ? text : "0";
            Edge edge = new Edge("INT or BOOL (0, 1) as a number, 0 for NULL; (0 for others)", worked(text))
                .answers(number, "value 0 of " + text, x -> x.value(0));
            for (int what = 1; what <= 5; what++) {
                int part = what;
                edge.answers(0, "value " + what + " of " + text, x -> x.value(part));
            }
        }
        new Edge("value: NULL at first", x -> { }).answers(0, "value 0", x -> x.value(0)).answers(0, "value 1", x -> x.value(1))
            .answers(0, "value 5", x -> x.value(5)).refuses("value 6", x -> x.value(6));
    }

    private static void valueOfTexts() {
        String sentence = "8 CHARACTERS of a TEXT from 8 what - 8 on, the highest first, zeros behind its end";
        for (int n = 0; n <= 40; n++) {
            String text = FORTY.substring(0, n);
            Bench x = new Bench();
            x.clear(1, 1);
            x.text(1, FORTY);
            x.work("b");
            x.text(1, text);
            x.work("b");
            Due.same("how many CHARACTERS a TEXT has | " + n, x.value(0), n);
            for (int what = 1; what <= 5; what++) {
                long due = 0;
                for (int k = 8 * what - 8; k < 8 * what; k++) {
                    due = due * 256 + (k < n ? text.charAt(k) : 0);
                }
                Due.same(sentence + " | value " + what + " of " + n, x.value(what), due);
            }
        }
        Edge.of(sentence).answers(0x68656C6400000000L, "value 1", x -> x.value(1)).answers(0, "value 2", x -> x.value(2))
            .answers(0, "value 5", x -> x.value(5)).answers(4, "value 0", x -> x.value(0));
    }

    private static void countWhat() {
        String sentence = "count: what 0 .. 2.";
        Edge.of(sentence).answers(4, "count 0", x -> x.count(0)).answers(4, "count 1", x -> x.count(1))
            .answers(6, "count 2", x -> x.count(2));
        for (int wrong : new int[] {-1, 3, LEAST_INT, GREATEST_INT, 256}) {
            Edge.of(sentence).refuses("count " + wrong, x -> x.count(wrong));
            new Edge(sentence, x -> { }).refuses("count " + wrong, x -> x.count(wrong));
        }
        for (int n : new int[] {0, 1, 20, 999, 1000}) {
            new Edge("0 bytes of the TAPE", fed(n)).answers(n, "count 0", x -> x.count(0));
        }
    }

    private static void countPlace() {
        String sentence = "PLACE of the latest read, -1 if it told none, or before";
        Bench x = new Bench();
        Due.same(sentence + " | before", x.count(1), -1);
        x.text(0, "refused");
        Due.same(sentence + " | a refused text is no read", x.count(1), -1);
        Due.same(sentence + " | the first byte", x.read(")"), "broken 0");
        Due.same(sentence + " | told", x.count(1), 0);
        x.kind();
        x.work();
        x.end(1);
        Due.same(sentence + " | other calls leave it", x.count(1), 0);
        Due.same(sentence + " | the last byte", x.read(" ".repeat(999) + ")"), "broken 999");
        Due.same(sentence + " | behind the last byte", x.read(" ".repeat(1000)), "broken 1000");
        Due.same(sentence + " | told", x.count(1), 1000);
        x.read("1 / 0");
        Due.same(sentence + " | none", x.count(1), -1);
        x.work();
        Due.same(sentence + " | an error tells none", x.count(1), -1);
    }

    private static void countError() {
        String sentence = "the latest ERROR, 0 before";
        Bench x = new Bench();
        x.read("nosuch");
        x.kind();
        x.work();
        x.set(0, MOST + 1);
        Due.same(sentence + " | other exceptions are none", x.count(2), 0);
        String[] wrong = {"1 + 'x'", "f()", "1 / 0", MOST + " + 1", "'" + "x".repeat(40) + "' || 'x'", "substr('', 1, -1)"};
        for (int error : new int[] {1, 6, 2, 5, 3, 4, 4, 1}) {
            x.work(wrong[error - 1]);
            Due.same(sentence + " | told", x.count(2), error);
            x.work("1");
            x.kind();
            x.read("1 1");
            Due.same(sentence + " | it stays", x.count(2), error);
        }
        x.kind("1 / 0");
        Due.same(sentence + " | kind tells none of 3 to 6", x.count(2), 1);
        x.kind("f()");
        Due.same(sentence + " | kind tells 2", x.count(2), 2);
    }

    private static void withoutX() {
        String sentence = "IllegalStateException: there is no X";
        Consumer<Bench> broken = x -> {
            x.set(0, 3);
            x.read("a + ");
            x.tape("a + 1");
        };
        for (Consumer<Bench> before : java.util.List.<Consumer<Bench>>of(x -> { }, broken)) {
            new Edge(sentence, before).answers("IllegalStateException", "kind", x -> x.bench.kind())
                .answers("IllegalStateException", "work", x -> x.bench.work());
        }
        new Edge(sentence, broken).answers(1, "read and work", x -> { x.bench.read(); return x.bench.work(); }, "place", -1,
                "bytes", 0, "tape", "''", "X", "0: 4", "value", 4);
    }

    private static void theTapeIsReadByTwoCalls() {
        String sentence = "a call that reads THE TAPE leaves it empty, also if it throws";
        Edge.of(sentence)
            .answers("done", "text", x -> { x.bench.text(1); return "done"; }, "bytes", 0, "tape", "''", "b", "1: 'tape'")
            .refuses("text of an INT", x -> { x.bench.text(0); return "done"; }, "bytes", 0, "tape", "''")
            .answers("UnsupportedOperationException", "read", x -> x.bench.read(), "bytes", 0, "tape", "''", "place", 0)
            .answers(1, "read", x -> { x.end(0); x.tape("1"); return x.bench.read(); }, "bytes", 0, "tape", "''", "place", -1,
                "X", "0: 1").answers("UnsupportedOperationException", "read twice",
                x -> { x.read("1"); return x.bench.read(); }, "bytes", 0, "tape", "''", "place", 0, "X", "0: 1")
            .answers("done", "text twice", x -> { x.text(1, "q"); x.bench.text(1); return "done"; }, "bytes", 0, "tape", "''",
                "b", "1: ''");
        Edge.of(sentence + "; the others leave it").answers(0, "kind", x -> x.bench.kind())
            .answers(1, "work", x -> x.bench.work(), "value", 8);
    }

    private static void calls512() {
        String sentence = "An object is used for at most 512 calls after it has been made";
        TruthBench x = new TruthBench();
        int calls = 0;
        for (int round = 1; round <= 64; round++) {
            // The eight bytes are "a + 1" and blanks.
            Due.same(sentence + " | feed", x.feed(0x61202B20, 0x31202020, 0x20202020, 0x20202020, 0x20202020), 20);
            Due.same(sentence + " | end", x.end(8), 8);
            x.set(0, round);
            Due.same(sentence + " | read", x.read(), 8);
            Due.same(sentence + " | work", x.work(), 1);
            Due.same(sentence + " | value", x.value(0), round + 1);
            Due.same(sentence + " | keep", x.keep(7), 1);
            Due.same(sentence + " | count", x.count(1), -1);
            calls += 8;
        }
        Due.same(sentence, calls, 512);
    }

    /** As many reads of long texts as there can be, by turns good and broken. */
    private static void readsAmong512() {
        Bench x = new Bench();
        for (int round = 0; round < 5; round++) {
            String part = "'" + "0123456789".repeat(3) + "012345678" + round + "'";
            String text = "length(" + part + ")" + (" + length(" + part + ")").repeat(17);
            Due.same("512 calls | read " + round, x.read(text), text.length());
            Due.same("512 calls | work " + round, x.work(), 720);
            Due.same("512 calls | X is a text", x.work(part), part);
            Due.same("512 calls | broken", x.read(part + " " + part), "broken 43");
            Due.same("512 calls | X stays", x.work(), part);
        }
    }
}
