import java.nio.ByteBuffer;
import java.nio.charset.StandardCharsets;
import java.util.Arrays;

/** Shows what expressions over three registers come to. */
public final class Example {
    public static void main(String[] args) {
        TruthBench bench = new TruthBench();
        bench.set(0, 7);      // register a is of the kind INT, as all are at first
        bench.clear(1, 1);    // register b is of the kind TEXT from now on, and NULL
        type(bench, "hello");
        bench.text(1);        // b holds the tape as its TEXT
        bench.clear(2, 2);    // register c is of the kind BOOL from now on, and NULL

        show(bench, "a * 2 - 1");
        show(bench, "upper(b) || ', it''s ' || substr(b, 2, 3)");
        show(bench, "a in (1, 7) and c is null");
        System.out.println("c keeps that: " + bench.keep(2));
        show(bench, "case when c then b else 'none' end");
        System.out.println("c keeps that: " + bench.keep(2));
        show(bench, "a in (1, null)");
        show(bench, "a + * 2");
        show(bench, "a + b");
        show(bench, "length(b, 1)");
        show(bench, "a / (a - 7)");
    }

    /** Puts the text on the tape, 20 bytes at a time, and takes off what the last of them have too much. */
    static void type(TruthBench bench, String text) {
        byte[] bytes = text.getBytes(StandardCharsets.ISO_8859_1);
        ByteBuffer ints = ByteBuffer.wrap(Arrays.copyOf(bytes, (bytes.length + 19) / 20 * 20));
        bench.end(0);
        while (ints.hasRemaining()) {
            bench.feed(ints.getInt(), ints.getInt(), ints.getInt(), ints.getInt(), ints.getInt());
        }
        bench.end(bytes.length);
    }

    static void show(TruthBench bench, String expression) {
        type(bench, expression);
        System.out.println(expression + ": " + answer(bench));
    }

    /** Reads the tape, checks it, works it out, and tells how far that came. */
    static String answer(TruthBench bench) {
        try {
            bench.read();
            int kind = bench.kind();
            return bench.work() == 0 ? "NULL" : value(bench, kind);
        } catch (UnsupportedOperationException e) {
            return "broken at the place " + bench.count(1);
        } catch (ArithmeticException e) {
            return "ERROR " + bench.count(2);
        }
    }

    static String value(TruthBench bench, int kind) {
        long number = bench.value(0);
        if (kind != 1) {
            return kind == 0 ? "INT " + number : number == 1 ? "TRUE" : "FALSE";
        }
        StringBuilder text = new StringBuilder();
        for (int k = 0; k < number; k++) {
            text.append((char) (bench.value(1 + k / 8) >> 56 - 8 * (k % 8) & 127));
        }
        return "TEXT " + text;
    }
}
