/** The promises 1 to 12 one after the other: ordinary inputs, the edges, and wrong inputs. */
final class PromisesTest {
    private static final String BAD = "IllegalArgumentException";
    private static final long MOST = 9007199254740991L;
    private static final String FORTY = "0123456789abcdefghijABCDEFGHIJ~ !\"#$%&'(";

    public static void main(String[] args) {
        promise1NewObject();
        promise2Feed();
        promise3End();
        promise4Clear();
        promise5Set();
        promise6Text();
        promise7Read();
        promise8Kind();
        promise9Work();
        promise10Keep();
        promise11Value();
        promise12Count();
        Due.finish("PromisesTest");
    }

    private static void promise1NewObject() {
        Bench x = new Bench();
        Due.same("1 tape", x.count(0), 0);
        Due.same("1 place", x.count(1), -1);
        Due.same("1 error", x.count(2), 0);
        Due.same("1 kind without X", x.kind(), "IllegalStateException");
        Due.same("1 work without X", x.work(), "IllegalStateException");
        for (int what = 0; what <= 5; what++) {
            Due.same("1 value " + what, x.value(what), 0);
        }
        for (String name : "a b c d e f g h".split(" ")) {
            Due.same("1 kind of " + name, x.kind(name), 0);
            Due.same("1 value of " + name, x.work(name), "NULL");
        }
    }

    private static void promise2Feed() {
        Bench x = new Bench();
        for (int k = 1; k <= 50; k++) {
            Due.same("2 feed " + k, x.feed(), 20 * k);
        }
        Due.same("2 feed beyond 1000", x.feed(), "IndexOutOfBoundsException");
        Due.same("2 the tape stays", x.count(0), 1000);
        x.end(981);
        Due.same("2 feed to 1001", x.feed(), "IndexOutOfBoundsException");
        x.end(980);
        Due.same("2 feed to 1000", x.feed(), 1000);
        x.end(20);
        x.clear(1, 1);
        Due.same("2 order of bytes", Bench.of(() -> { x.bench.text(1); return x.work("b"); }), "'abcdefghijklmnopqrst'");
        x.bench.feed(-1, 0, 0, 0, 0);
        Due.same("2 bytes above 127", Bench.of(() -> { x.bench.text(1); return 0; }), BAD);
    }

    private static void promise3End() {
        Bench x = new Bench();
        Due.same("3 end of an empty tape", x.end(0), 0);
        Due.same("3 end beyond an empty tape", x.end(1), BAD);
        x.feed();
        Due.same("3 end at its length", x.end(20), 20);
        Due.same("3 end beyond its length", x.end(21), BAD);
        Due.same("3 end below 0", x.end(-1), BAD);
        Due.same("3 end at the least", x.end(Integer.MIN_VALUE), BAD);
        Due.same("3 the tape stays", x.count(0), 20);
        Due.same("3 end", x.end(3), 3);
        Due.same("3 the tape is shorter", x.count(0), 3);
        Due.same("3 not longer again", x.end(4), BAD);
        Due.same("3 the next bytes come behind", x.feed(), 23);
        x.clear(1, 1);
        x.bench.text(1);
        Due.same("3 its first bytes are kept", x.work("b"), "'abcabcdefghijklmnopqrst'");
    }

    private static void promise4Clear() {
        Bench x = new Bench();
        for (int r = 0; r < 8; r++) {
            for (int kind = 2; kind >= 0; kind--) {
                x.set(r, 1);
                Due.same("4 clear", x.clear(r, kind), "done");
                String name = String.valueOf((char) ('a' + r));
                Due.same("4 kind of " + name, x.kind(name), kind);
                Due.same("4 value of " + name, x.work(name), "NULL");
            }
        }
        x.set(0, 5);
        for (int wrong : new int[] {-1, 8, Integer.MAX_VALUE, Integer.MIN_VALUE}) {
            Due.same("4 register " + wrong, x.clear(wrong, 0), BAD);
        }
        for (int wrong : new int[] {-1, 3, Integer.MAX_VALUE, Integer.MIN_VALUE}) {
            Due.same("4 kind " + wrong, x.clear(0, wrong), BAD);
        }
        Due.same("4 what throws changes nothing", x.work("a"), 5);
    }

    private static void promise5Set() {
        Bench x = new Bench();
        x.clear(1, 1);
        x.clear(2, 2);
        for (long v : new long[] {0, 1, -1, MOST, -MOST}) {
            Due.same("5 set " + v, x.set(7, v), "done");
            Due.same("5 value " + v, x.work("h"), v);
        }
        for (long v : new long[] {MOST + 1, -MOST - 1, Long.MAX_VALUE, Long.MIN_VALUE}) {
            Due.same("5 set " + v, x.set(7, v), BAD);
        }
        Due.same("5 what throws changes nothing", x.work("h"), -MOST);
        Due.same("5 TRUE", x.set(2, 1), "done");
        for (long v : new long[] {2, -1, 1L << 32, (1L << 32) + 1}) {
            Due.same("5 no truth " + v, x.set(2, v), BAD);
        }
        Due.same("5 still TRUE", x.work("c"), "TRUE");
        Due.same("5 FALSE", x.set(2, 0), "done");
        Due.same("5 is FALSE", x.work("c"), "FALSE");
        Due.same("5 of a TEXT", x.set(1, 0), BAD);
        Due.same("5 of a TEXT", x.set(1, 1), BAD);
        Due.same("5 register -1", x.set(-1, 0), BAD);
        Due.same("5 register 8", x.set(8, 0), BAD);
    }

    private static void promise6Text() {
        Bench x = new Bench();
        x.clear(1, 1);
        x.clear(2, 2);
        Due.same("6 text", x.text(1, "hello"), "done");
        Due.same("6 the tape is empty", x.count(0), 0);
        Due.same("6 its value", x.work("b"), "'hello'");
        Due.same("6 of 40", x.text(1, FORTY), "done");
        Due.same("6 its value", x.work("b"), "'" + FORTY + "'");
        Due.same("6 of 41", x.text(1, FORTY + "x"), BAD);
        Due.same("6 the tape is empty", x.count(0), 0);
        for (char c : new char[] {31, 127, 0, 10, 128, 255}) {
            Due.same("6 byte " + (int) c, x.text(1, "x" + c), BAD);
            Due.same("6 the tape is empty", x.count(0), 0);
        }
        for (int r : new int[] {0, 2, -1, 8, Integer.MIN_VALUE, Integer.MAX_VALUE}) {
            Due.same("6 register " + r, x.text(r, "q"), BAD);
            Due.same("6 the tape is empty", x.count(0), 0);
        }
        Due.same("6 what throws changes nothing else", x.work("b"), "'" + FORTY + "'");
        Due.same("6 the empty text", x.text(1, ""), "done");
        Due.same("6 its value", x.work("b"), "''");
        Due.same("6 it is not NULL", x.work("b is null"), "FALSE");
    }

    private static void promise7Read() {
        Bench x = new Bench();
        Due.same("7 read", x.read("a + 1"), 5);
        Due.same("7 the tape is empty", x.count(0), 0);
        Due.same("7 its length with blanks and remarks", x.read(" 1 -- one \n "), 12);
        Due.same("7 of 1000 bytes", x.read("7" + " ".repeat(999)), 1000);
        Due.same("7 it is X", x.work(), 7);
        Due.same("7 the empty tape", x.read(""), "broken 0");
        Due.same("7 broken", x.read("1 + )"), "broken 4");
        Due.same("7 the tape is empty", x.count(0), 0);
        Due.same("7 X stays", x.work(), 7);
        x.read("'first'");
        x.read("'second' || 1 2");
        Due.same("7 X stays with its texts", x.work(), "'first'");
        x.read("8");
        Due.same("7 no PLACE now", x.count(1), -1);
    }

    private static void promise8Kind() {
        Bench x = new Bench();
        Due.same("8 no X", x.kind(), "IllegalStateException");
        x.read("nosuch(");
        Due.same("8 still no X", x.kind(), "IllegalStateException");
        Due.same("8 INT", x.kind("1"), 0);
        Due.same("8 TEXT", x.kind("'1'"), 1);
        Due.same("8 BOOL", x.kind("true"), 2);
        Due.same("8 NULL", x.kind("null"), 3);
        Due.same("8 of a register", x.kind("a"), 0);
        x.clear(0, 2);
        Due.same("8 by the kinds now", x.kind(), 2);
        Due.same("8 an error", x.kind("a + 1"), "error 1");
        x.clear(0, 0);
        Due.same("8 no error now", x.kind(), 0);
        Due.same("8 the latest error stays", x.count(2), 1);
        Due.same("8 no function", x.kind("f()"), "error 2");
        Due.same("8 kind works out nothing", x.kind("1 / 0"), 0);
    }

    private static void promise9Work() {
        Bench x = new Bench();
        Due.same("9 no X", x.work(), "IllegalStateException");
        Due.same("9 an INT", x.work("1 + 2"), 3);
        Due.same("9 NULL", x.work("null"), "NULL");
        x.read("a * 2");
        x.set(0, 4);
        Due.same("9 by the registers now", x.work(), 8);
        x.set(0, 5);
        Due.same("9 by the registers now", x.work(), 10);
        Due.same("9 error 3", x.work("a / 0"), "error 3");
        Due.same("9 THE VALUE stays", x.value(0), 10);
        Due.same("9 is checked before", x.work("1 / 0 + 'x'"), "error 1");
        Due.same("9 is checked before", x.work("1 / 0 + f(1)"), "error 2");
        Due.same("9 also what is not worked out", x.work("true or 1"), "error 1");
        Due.same("9 THE VALUE stays", x.value(0), 10);
        Due.same("9 a TEXT", x.work("'x'"), "'x'");
        Due.same("9 the latest error stays", x.count(2), 1);
    }

    private static void promise10Keep() {
        Bench x = new Bench();
        x.set(0, 3);
        Due.same("10 NULL at first", x.keep(0), 1);
        Due.same("10 a is NULL", x.work("a"), "NULL");
        x.clear(1, 1);
        x.clear(2, 2);
        x.set(2, 1);
        x.work("6 * 7");
        Due.same("10 an INT", x.keep(0), 1);
        Due.same("10 no INT is a TEXT", x.keep(1), 0);
        Due.same("10 no INT is a BOOL", x.keep(2), 0);
        Due.same("10 it is kept", x.work("a"), 42);
        Due.same("10 another stays", x.work("c"), "TRUE");
        x.work("'text'");
        Due.same("10 a TEXT", x.keep(1), 1);
        Due.same("10 no TEXT is an INT", x.keep(0), 0);
        x.work("'other text'");
        Due.same("10 it is kept", x.work("b"), "'text'");
        x.work("false");
        Due.same("10 a BOOL", x.keep(2), 1);
        Due.same("10 no BOOL is an INT", x.keep(0), 0);
        Due.same("10 it is kept", x.work("c"), "FALSE");
        x.work("length('seven')");
        Due.same("10 a length is an INT", x.keep(0), 1);
        Due.same("10 a length is no TEXT", x.keep(1), 0);
        Due.same("10 a length has no characters", x.value(1), 0);
        x.work("b like '%'");
        Due.same("10 a comparison is a BOOL", x.keep(2), 1);
        x.work("a + null");
        for (int r = 0; r < 3; r++) {
            Due.same("10 NULL is of any kind", x.keep(r), 1);
            String name = String.valueOf((char) ('a' + r));
            Due.same("10 its kind stays", x.kind(name), r);
            Due.same("10 it is NULL", x.work(name), "NULL");
        }
        for (int r : new int[] {-1, 8, Integer.MIN_VALUE, Integer.MAX_VALUE}) {
            Due.same("10 register " + r, x.keep(r), BAD);
        }
    }

    private static void promise11Value() {
        Bench x = new Bench();
        x.work("-9007199254740991");
        Due.same("11 an INT", x.value(0), -MOST);
        Due.same("11 no characters", x.value(1), 0);
        x.work("true");
        Due.same("11 TRUE", x.value(0), 1);
        Due.same("11 no characters", x.value(1), 0);
        x.work("false");
        Due.same("11 FALSE", x.value(0), 0);
        x.clear(1, 1);
        x.text(1, FORTY);
        x.work("b");
        Due.same("11 its length", x.value(0), 40);
        Due.same("11 from 0", x.value(1), 0x3031323334353637L);
        Due.same("11 from 8", x.value(2), 0x3839616263646566L);
        Due.same("11 from 32", x.value(5), 0x2122232425262728L);
        x.work("'123456789'");
        Due.same("11 its length", x.value(0), 9);
        Due.same("11 zeros behind", x.value(2), 0x3900000000000000L);
        Due.same("11 zeros alone", x.value(3), 0);
        Due.same("11 zeros alone", x.value(5), 0);
        x.work("null");
        Due.same("11 NULL", x.value(0), 0);
        Due.same("11 no characters", x.value(1), 0);
        for (int what : new int[] {-1, 6, Integer.MIN_VALUE, Integer.MAX_VALUE}) {
            Due.same("11 what " + what, x.value(what), BAD);
        }
    }

    private static void promise12Count() {
        Bench x = new Bench();
        x.feed();
        Due.same("12 bytes", x.count(0), 20);
        x.end(0);
        x.read("1 1");
        Due.same("12 PLACE", x.count(1), 2);
        x.text(0, "x");
        Due.same("12 PLACE of the latest read", x.count(1), 2);
        x.read("1");
        Due.same("12 no PLACE", x.count(1), -1);
        x.work("1 / 0");
        Due.same("12 the latest error", x.count(2), 3);
        x.kind("1 + true");
        Due.same("12 the latest error", x.count(2), 1);
        x.work("1");
        x.read(")");
        Due.same("12 it stays", x.count(2), 1);
        for (int what : new int[] {-1, 3, Integer.MIN_VALUE, Integer.MAX_VALUE}) {
            Due.same("12 what " + what, x.count(what), BAD);
        }
    }
}
