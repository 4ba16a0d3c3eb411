import java.util.function.LongSupplier;
import java.util.function.Supplier;
import java.util.function.ToLongFunction;

/** What the tests of single sentences share: each begins with the sentence that it tests. */
final class Edges {
    static final int TERMS = Document.TERMS;

    private final Check check = new Check();
    private final Document document = new Document();
    private String sentence = "";

    void says(int promise, String words) {
        sentence = (promise == TERMS ? "terms" : "promise " + promise) + " (" + words + "): ";
        same("the document says so", document.quote(promise, words) ? 1 : 0, 1);
    }

    void same(String what, String got, String want) {
        check.same(sentence + what, got, want);
    }

    void same(String what, long got, long want) {
        check.same(sentence + what, got, want);
    }

    void answers(String call, long want, LongSupplier run) {
        check.answers(sentence + call, want, run);
    }

    void refuses(String call, String exception, LongSupplier run) {
        check.refuses(sentence + call, exception, run);
    }

    void refusesAndKeeps(HeldNotes x, String call, String exception, LongSupplier run) {
        check.refusesAndKeeps(x, sentence + call, exception, run);
    }

    /** The call must leave an object as one that was made alike and did not get the call, in all that it does later. */
    void keepsAll(String call, Supplier<HeldNotes> make, ToLongFunction<HeldNotes> run) {
        HeldNotes x = make.get();
        Check.answer(() -> run.applyAsLong(x));
        same(call + " changes nothing", Portrait.ofAll(x), Portrait.ofAll(make.get()));
    }

    void finish(String test) {
        sentence = "";
        same("sentences that no test quotes", String.join("\n", document.unquoted()), "");
        check.finish(test);
    }
}
