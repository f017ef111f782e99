import java.util.LinkedHashMap;
import java.util.Map;
import java.util.function.Consumer;

/** All that the calls show of an object after some calls, part by part. */
final class State {
    static final String NAMES = "abcdefgh";

    private State() {
    }

    /** An object of which no part is as in a new one, so that every change of it is seen. */
    static void filled(Bench x) {
        for (int r : new int[] {1, 5, 7}) {
            x.clear(r, 1);
        }
        for (int r : new int[] {2, 3, 6}) {
            x.clear(r, 2);
        }
        x.set(0, 7);
        x.text(1, "hello");
        x.set(2, 1);
        x.set(3, 0);
        x.text(7, "it's");
        x.work("substr('', 1, -1)");
        x.work("'held'");
        x.read("a + 1");
        x.read("1 + )");
        x.tape("tape");
    }

    /** Each part is looked at on an object of its own, since looking at one changes others. */
    static Map<String, String> after(Consumer<Bench> calls) {
        Map<String, String> parts = new LinkedHashMap<>();
        Bench x = made(calls);
        parts.put("bytes", x.count(0));
        parts.put("place", x.count(1));
        parts.put("error", x.count(2));
        parts.put("tape", tape(x));
        parts.put("value", value(made(calls)));
        Bench y = made(calls);
        parts.put("X", y.kind() + ": " + y.work());
        Bench z = made(calls);
        for (String name : NAMES.split("")) {
            parts.put(name, z.kind(name) + ": " + z.work(name));
        }
        return parts;
    }

    private static Bench made(Consumer<Bench> calls) {
        Bench x = new Bench();
        calls.accept(x);
        return x;
    }

    /** The bytes of the tape, as far as a TEXT can show them. */
    private static String tape(Bench x) {
        x.clear(0, 1);
        String answer = Bench.of(() -> { x.bench.text(0); return "done"; });
        return answer.equals("done") ? x.work("a") : "no TEXT";
    }

    /** THE VALUE by its kind, which the registers that can keep it tell. */
    private static String value(Bench x) {
        StringBuilder kept = new StringBuilder();
        for (int kind = 0; kind <= 2; kind++) {
            x.clear(kind, kind);
            kept.append(x.keep(kind));
        }
        String number = x.value(0);
        String characters = x.characters(kept.toString().equals("010") ? Integer.parseInt(number) : 0);
        switch (kept + " " + number) {
            case "111 0": return "NULL" + characters;
            case "001 0": return "FALSE" + characters;
            case "001 1": return "TRUE" + characters;
            default:
        }
        return kept.toString().equals("010") ? "'" + characters + "'" : kept.toString().equals("100") ? number + characters
            : "kept " + kept + " number " + number;
    }
}
