import java.util.LinkedHashMap;
import java.util.Map;
import java.util.function.Consumer;
import java.util.function.Function;

/**
 * A sentence of the document that names an edge. Each try is one call on a fresh object on which the
 * same calls came before: its answer, and all that the object shows afterwards, must be as due.
 */
final class Edge {
    static final String BAD = "IllegalArgumentException";

    private final String sentence;
    private final Consumer<Bench> before;
    private final Map<String, String> shownBefore;

    Edge(String sentence, Consumer<Bench> before) {
        this.sentence = sentence;
        this.before = before;
        this.shownBefore = State.after(before);
    }

    /** On an object of which every part is filled. */
    static Edge of(String sentence) {
        return new Edge(sentence, State::filled);
    }

    /** The call answers what is due, and changes just these parts: a name, and what is shown of it then. */
    Edge answers(Object due, String what, Function<Bench, Object> call, Object... changes) {
        Bench x = new Bench();
        before.accept(x);
        Due.same(sentence + " | " + what, Bench.of(() -> call.apply(x)), due);
        Map<String, String> dueAfter = new LinkedHashMap<>(shownBefore);
        for (int k = 0; k < changes.length; k += 2) {
            dueAfter.put(String.valueOf(changes[k]), String.valueOf(changes[k + 1]));
        }
        Consumer<Bench> after = before.andThen(y -> Bench.of(() -> call.apply(y)));
        Due.same(sentence + " | behind " + what, State.after(after), dueAfter);
        return this;
    }

    /** The call throws IllegalArgumentException and changes nothing but these parts. */
    Edge refuses(String what, Function<Bench, Object> call, Object... changes) {
        return answers(BAD, what, call, changes);
    }

    /** The text is taken: it is X, of which that is shown. */
    Edge reads(String text, String shown) {
        return answers(text.length(), "read " + text, x -> x.read(text), "bytes", 0, "tape", "''", "place", -1, "X", shown);
    }

    /** Each text is broken where the mark ^ stands, which is no part of it; X stays. */
    Edge breaks(String... marked) {
        for (String text : marked) {
            int place = text.indexOf('^');
            String unmarked = text.substring(0, place) + text.substring(place + 1);
            answers("broken " + place, "read " + text, x -> x.read(unmarked), "bytes", 0, "tape", "''", "place", place);
        }
        return this;
    }

    /** X is each of these texts: kind answers that and changes nothing. */
    Edge isOfKind(int kind, String... texts) {
        for (String text : texts) {
            with(text).answers(kind, "kind", x -> x.bench.kind());
        }
        return this;
    }

    /** X is each of these texts: work changes THE VALUE alone, to what is due. */
    Edge works(Object due, String... texts) {
        for (String text : texts) {
            with(text).answers(due.equals("NULL") ? 0 : 1, "work", x -> x.bench.work(), "value", due);
        }
        return this;
    }

    /** X is each of these texts: kind and work tell that error of its types and change nothing else. */
    Edge isWrong(int error, String... texts) {
        for (String text : texts) {
            withOther(error).with(text).answers("ArithmeticException", "kind", x -> x.bench.kind(), "error", error);
        }
        return fails(error, texts);
    }

    /** X is each of these texts: work tells that error and changes nothing else. */
    Edge fails(int error, String... texts) {
        for (String text : texts) {
            withOther(error).with(text).answers("ArithmeticException", "work", x -> x.bench.work(), "error", error);
        }
        return this;
    }

    /** The same with another latest error than this one, which is told then. */
    private Edge withOther(int error) {
        return new Edge(sentence, before.andThen(x -> x.work(error == 3 ? "substr('', 1, -1)" : "1 / 0")));
    }

    /** The same with the text as X, and bytes on the tape. */
    private Edge with(String text) {
        return new Edge(sentence + " | " + text, before.andThen(x -> Due.same("read " + text, x.read(text), text.length()))
            .andThen(x -> x.tape("tape")));
    }
}
