import java.util.List;
import java.util.function.Supplier;
import java.util.function.ToLongFunction;

/**
 * Checks of the document's boundary cases, each under the sentence that names it. What a call
 * leaves as it was is told by a twin: an object that is made in the same way and not called.
 */
final class Edges {
    static final Class<IndexOutOfBoundsException> PLACE = IndexOutOfBoundsException.class;
    static final Class<IllegalArgumentException> VALUE = IllegalArgumentException.class;
    static final Class<IllegalStateException> STATE = IllegalStateException.class;

    private final Checks checks = new Checks();
    private String sentence = "";

    /** The document's sentence that the next checks are of. */
    void about(String words) {
        sentence = "'" + words + "': ";
    }

    void same(String what, long got, long due) {
        checks.same(sentence + what, got, due);
    }

    void row(String what, long[] got, long... due) {
        same(what + ": length", got.length, due.length);
        for (int i = 0; i < due.length && i < got.length; i++) {
            same(what + "[" + i + "]", got[i], due[i]);
        }
    }

    /** The call is refused, and changes neither what can be seen nor the states that are saved. */
    void refused(String what, Class<? extends Exception> due, Supplier<BufferLoans> make,
            ToLongFunction<BufferLoans> call) {
        refusedIn(what, due, make.get(), make.get(), call);
        refusedIn(what + " with 6 saved states", due, filled(make), filled(make), call);
    }

    void refusedIn(String what, Class<? extends Exception> due, BufferLoans x, BufferLoans twin,
            ToLongFunction<BufferLoans> call) {
        checks.refused(sentence + what, due, () -> call.applyAsLong(x));
        alike("behind the refused " + what, x, twin);
    }

    /** The call answers and changes nothing. */
    void looks(String what, Supplier<BufferLoans> make, ToLongFunction<BufferLoans> call, long due) {
        looksIn(what, make.get(), make.get(), call, due);
        looksIn(what + " with 6 saved states", filled(make), filled(make), call, due);
    }

    private void looksIn(String what, BufferLoans x, BufferLoans twin, ToLongFunction<BufferLoans> call, long due) {
        same(what, call.applyAsLong(x), due);
        alike("behind " + what, x, twin);
    }

    /** The call answers, saves the state from before it, and drops the oldest one of 6. */
    void undoable(String what, Supplier<BufferLoans> make, ToLongFunction<BufferLoans> call, long due) {
        undoableIn(what, make.get(), make.get(), call, due);
        undoableIn(what + " with 6 saved states", filled(make), filled(make), call, due);
    }

    private void undoableIn(String what, BufferLoans x, BufferLoans twin, ToLongFunction<BufferLoans> call,
            long due) {
        int saved = Math.min(x.count(9) + 1, 6);
        same(what, call.applyAsLong(x), due);
        same("states saved by " + what, x.count(9), saved);
        same("undo of " + what, x.undo(), saved - 1);
        equal("behind undo of " + what, Looks.ofState(x), Looks.ofState(twin));
        for (int left = saved - 2; left >= 0; left--) {
            same("undo of what was ahead of " + what, x.undo(), left);
            twin.undo();
            equal("behind undo of what was ahead of " + what, Looks.ofState(x), Looks.ofState(twin));
        }
        checks.refused(sentence + "undo of no more", STATE, x::undo);
    }

    /** Both tell the same, now and behind each undo, and then have as many characters. */
    private void alike(String what, BufferLoans x, BufferLoans twin) {
        equal(what, Looks.of(x), Looks.of(twin));
        for (int left = twin.count(9); left > 0 && x.count(9) > 0; left--) {
            same("undo " + what, x.undo(), twin.undo());
            equal("undo " + what, Looks.of(x), Looks.of(twin));
        }
        same("characters " + what, x.clearBuffer(), twin.clearBuffer());
    }

    private void equal(String what, List<Long> got, List<Long> due) {
        same(what + ": looks", got.size(), due.size());
        for (int i = 0; i < due.size() && i < got.size(); i++) {
            same(what + ": look " + i, got.get(i), due.get(i));
        }
    }

    /** The same state, with 6 saved ones that differ from it and from each other but for the oldest. */
    static BufferLoans filled(Supplier<BufferLoans> make) {
        BufferLoans x = make.get();
        int before = x.setting(1);
        for (int i = 1; i <= 5; i++) {
            x.set(1, (before + i) % 101);
        }
        x.set(1, before);
        return x;
    }

    void end(String name) {
        checks.end(name);
    }
}
