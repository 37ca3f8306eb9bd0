import java.util.List;
import java.util.function.Supplier;
import java.util.function.ToLongFunction;

/**
 * Checks of the document's boundary cases, each under the sentence that names it. What a call
 * leaves as it was is told by objects that are made in the same way and not called. As an object
 * is used for at most 512 calls, each look has an object of its own.
 */
final class Edges {
    static final Class<IndexOutOfBoundsException> PLACE = IndexOutOfBoundsException.class;
    static final Class<IllegalArgumentException> VALUE = IllegalArgumentException.class;
    static final Class<IllegalStateException> STATE = IllegalStateException.class;

    private final Checks checks = new Checks();
    private String sentence = "";

    /** The document's sentence that the next checks are of. */
    void about(String words) {
        sentence = "'" + words + "': ";
    }

    void same(String what, long got, long due) {
        checks.same(sentence + what, got, due);
    }

    void row(String what, long[] got, long... due) {
        same(what + ": length", got.length, due.length);
        for (int i = 0; i < due.length && i < got.length; i++) {
            same(what + "[" + i + "]", got[i], due[i]);
        }
    }

    /** The call is refused, and changes neither what can be seen nor the states that are saved. */
    void refused(String what, Class<? extends Exception> due, Supplier<BufferLoans> make,
            ToLongFunction<BufferLoans> call) {
        refusedIn(what, due, make, call);
        refusedIn(what + " with 6 saved states", due, () -> filled(make), call);
    }

    void refusedIn(String what, Class<? extends Exception> due, Supplier<BufferLoans> make,
            ToLongFunction<BufferLoans> call) {
        BufferLoans x = make.get();
        checks.refused(sentence + what, due, () -> call.applyAsLong(x));
        alike("behind the refused " + what, () -> tried(make, call), make);
    }

    private static BufferLoans tried(Supplier<BufferLoans> make, ToLongFunction<BufferLoans> call) {
        BufferLoans x = make.get();
        try {
            call.applyAsLong(x);
        } catch (RuntimeException e) {
            // which one it is was looked at before
        }
        return x;
    }

    /** The call answers and changes nothing. */
    void looks(String what, Supplier<BufferLoans> make, ToLongFunction<BufferLoans> call, long due) {
        looksIn(what, make, call, due);
        looksIn(what + " with 6 saved states", () -> filled(make), call, due);
    }

    private void looksIn(String what, Supplier<BufferLoans> make, ToLongFunction<BufferLoans> call, long due) {
        same(what, call.applyAsLong(make.get()), due);
        alike("behind " + what, () -> tried(make, call), make);
    }

    /** The call answers, saves the state from before it, and drops the oldest one of 6. */
    void undoable(String what, Supplier<BufferLoans> make, ToLongFunction<BufferLoans> call, long due) {
        undoableIn(what, make, call, due);
        undoableIn(what + " with 6 saved states", () -> filled(make), call, due);
    }

    private void undoableIn(String what, Supplier<BufferLoans> make, ToLongFunction<BufferLoans> call, long due) {
        BufferLoans x = make.get();
        int saved = Math.min(x.count(9) + 1, 6);
        same(what, call.applyAsLong(x), due);
        same("states saved by " + what, x.count(9), saved);
        for (int level = 1; level <= Math.min(saved, x.count(9)); level++) {
            int more = level;
            Supplier<BufferLoans> back = () -> undone(tried(make, call), more);
            same("states left behind undo of " + what, back.get().count(9), saved - level);
            sameState("behind undo of " + what, back, () -> undone(make.get(), more - 1));
        }
        BufferLoans bare = undone(tried(make, call), Math.min(saved, x.count(9)));
        checks.refused(sentence + "undo of no more", STATE, bare::undo);
    }

    private static BufferLoans undone(BufferLoans x, int calls) {
        for (int call = 0; call < calls; call++) {
            x.undo();
        }
        return x;
    }

    /** Both tell the same, now and behind each undo, and have as many characters. */
    private void alike(String what, Supplier<BufferLoans> got, Supplier<BufferLoans> due) {
        sameState(what, got, due);
        int saved = due.get().count(9);
        same("count(9) " + what, got.get().count(9), saved);
        same("firstError() " + what, got.get().firstError(), due.get().firstError());
        same("clearBuffer() " + what, got.get().clearBuffer(), due.get().clearBuffer());
        for (int level = 0; level <= Math.min(saved, got.get().count(9)); level++) {
            same("digest behind " + level + " undo " + what, undone(got.get(), level).digest(),
                undone(due.get(), level).digest());
        }
    }

    private void sameState(String what, Supplier<BufferLoans> got, Supplier<BufferLoans> due) {
        int projects = due.get().count(0);
        equal("desk " + what, Looks.ofDesk(got.get()), Looks.ofDesk(due.get()));
        for (int p = 0; p < Math.min(projects, got.get().count(0)); p++) {
            equal("project " + p + " " + what, Looks.ofProject(got.get(), p), Looks.ofProject(due.get(), p));
        }
    }

    private void equal(String what, List<Long> got, List<Long> due) {
        same(what + ": looks", got.size(), due.size());
        for (int i = 0; i < due.size() && i < got.size(); i++) {
            same(what + ": look " + i, got.get(i), due.get(i));
        }
    }

    /** The same state, with 6 saved ones that differ from it and from each other but for the oldest. */
    static BufferLoans filled(Supplier<BufferLoans> make) {
        BufferLoans x = make.get();
        int before = x.setting(1);
        for (int i = 1; i <= 5; i++) {
            x.set(1, (before + i) % 101);
        }
        x.set(1, before);
        return x;
    }

    void end(String name) {
        checks.end(name);
    }
}
