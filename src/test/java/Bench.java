import java.nio.charset.StandardCharsets;

/** A TruthBench whose calls take texts, and answer texts: the answer, or the exception's name. */
final class Bench {
    interface Call {
        Object answer();
    }

    final TruthBench bench = new TruthBench();

    static String of(Call call) {
        try {
            return String.valueOf(call.answer());
        } catch (RuntimeException e) {
            return e.getClass().getSimpleName();
        }
    }

    /** Puts the text on the tape in place of what stands there. */
    void tape(String text) {
        bench.end(0);
        byte[] bytes = text.getBytes(StandardCharsets.ISO_8859_1);
        int[] ints = new int[(bytes.length + 19) / 20 * 5];
        for (int k = 0; k < bytes.length; k++) {
            ints[k / 4] |= (bytes[k] & 255) << 24 - k % 4 * 8;
        }
        for (int k = 0; k < ints.length; k += 5) {
            bench.feed(ints[k], ints[k + 1], ints[k + 2], ints[k + 3], ints[k + 4]);
        }
        bench.end(bytes.length);
    }

    String feed() {
        return of(() -> bench.feed(0x61626364, 0x65666768, 0x696A6B6C, 0x6D6E6F70, 0x71727374));
    }

    String end(int n) {
        return of(() -> bench.end(n));
    }

    String clear(int r, int kind) {
        return of(() -> { bench.clear(r, kind); return "done"; });
    }

    String set(int r, long v) {
        return of(() -> { bench.set(r, v); return "done"; });
    }

    String text(int r, String text) {
        tape(text);
        return of(() -> { bench.text(r); return "done"; });
    }

    /** The length, or "broken" and the place. */
    String read(String text) {
        tape(text);
        String answer = of(() -> bench.read());
        return answer.equals("UnsupportedOperationException") ? "broken " + bench.count(1) : answer;
    }

    String kind() {
        return errorOr(of(() -> bench.kind()));
    }

    /** THE VALUE as a text, or "error" and its number. */
    String work() {
        String answer = errorOr(of(() -> bench.work()));
        return answer.equals("0") || answer.equals("1") ? (answer.equals("0") ? "NULL" : shown(kind())) : answer;
    }

    /** Reads the text and works it out. */
    String work(String text) {
        String answer = read(text);
        return answer.startsWith("broken") ? answer : work();
    }

    /** Reads the text and answers its kind. */
    String kind(String text) {
        String answer = read(text);
        return answer.startsWith("broken") ? answer : kind();
    }

    String keep(int r) {
        return of(() -> bench.keep(r));
    }

    String value(int what) {
        return of(() -> bench.value(what));
    }

    String count(int what) {
        return of(() -> bench.count(what));
    }

    private String errorOr(String answer) {
        return answer.equals("ArithmeticException") ? "error " + bench.count(2) : answer;
    }

    private String shown(String kind) {
        if (kind.equals("1")) {
            return "'" + characters((int) bench.value(0)) + "'";
        }
        return kind.equals("2") ? (bench.value(0) == 1 ? "TRUE" : "FALSE") : value(0);
    }

    /** The first characters of THE VALUE, so many, with a mark if zeros don't follow. */
    String characters(int length) {
        StringBuilder all = new StringBuilder();
        for (int what = 1; what <= 5; what++) {
            long eight = bench.value(what);
            for (int shift = 56; shift >= 0; shift -= 8) {
                all.append((char) (eight >> shift & 255));
            }
        }
        boolean zeros = all.substring(length).chars().allMatch(c -> c == 0);
        return all.substring(0, length) + (zeros ? "" : " and no zeros behind");
    }
}
