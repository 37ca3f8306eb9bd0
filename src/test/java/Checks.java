import java.util.function.LongSupplier;

/** Counts the answers that are due and prints every one that is not. */
final class Checks {
    private int right;
    private int wrong;

    void same(String what, long got, long due) {
        if (got == due) {
            right++;
        } else {
            wrong++;
            System.out.println(what + " answered " + got + ", due is " + due);
        }
    }

    /** The exception must be of that very class, so that none of the machine's own passes for it. */
    void refused(String what, Class<? extends Exception> due, LongSupplier call) {
        String got;
        try {
            got = "answered " + call.getAsLong();
        } catch (RuntimeException e) {
            if (e.getClass() == due) {
                right++;
                return;
            }
            got = "threw " + e;
        }
        wrong++;
        System.out.println(what + " " + got + ", due is " + due.getSimpleName());
    }

    /** A call that throws changes nothing. */
    void refused(BufferLoans x, String what, Class<? extends Exception> due, LongSupplier call) {
        long before = x.digest();
        refused(what, due, call);
        same("digest behind the refused " + what, x.digest(), before);
    }

    /** The call saves one state (of 6 at most), and undo leads back to it. */
    void undoable(BufferLoans x, String what, LongSupplier call, long due) {
        int saved = Math.min(x.count(9), 5);
        long before = state(x);
        same(what, call.getAsLong(), due);
        same("count(9) behind " + what, x.count(9), saved + 1);
        long after = state(x);
        same("undo of " + what, x.undo(), saved);
        same("state behind undo of " + what, state(x), before);
        same(what + " again", call.getAsLong(), due);
        same("state behind " + what + " again", state(x), after);
    }

    /** A hash of all looks but the saved states. */
    private static long state(BufferLoans x) {
        long h = 1;
        for (int what = 0; what <= 8; what++) {
            h = mixed(h, x.count(what));
        }
        return looks(x, h);
    }

    static long mixed(long hash, long... values) {
        long h = hash;
        for (long value : values) {
            h = 31 * h + value;
        }
        return h;
    }

    static long bits(double value) {
        return Double.doubleToLongBits(value);
    }

    /** What the document's digest lists from the settings to the share of late days. */
    static long looks(BufferLoans x, long hash) {
        long h = mixed(hash, x.setting(0), x.setting(1), x.setting(2));
        for (int p = 0; p < x.count(0); p++) {
            for (int what = 0; what <= 14; what++) {
                h = mixed(h, x.project(p, what));
            }
            for (int t = 0; t < x.project(p, 7); t++) {
                for (int what = 0; what <= 5; what++) {
                    h = mixed(h, x.task(p, t, what));
                }
            }
            h = mixed(h, x.lender(p, 0), x.lender(p, 1), x.lender(p, 2), x.bears(p));
            for (int what = 0; what <= 4; what++) {
                h = mixed(h, x.ifDone(p, 60, what));
            }
            h = mixed(h, x.bestRule(p, 60));
            for (int q = 0; q < x.count(0); q++) {
                h = mixed(h, x.owed(p, q));
            }
        }
        for (int place = 0; place < x.count(2); place++) {
            h = mixed(h, x.loan(place, 0), x.loan(place, 1), x.loan(place, 2));
        }
        return mixed(h, x.weakest(), bits(x.lateShare()));
    }

    static void type(BufferLoans x, String text) {
        for (int i = 0; i < text.length(); i++) {
            x.append(text.charAt(i));
        }
    }

    /** A desk with these plans, as they stand in a text. */
    static BufferLoans desk(String plans) {
        BufferLoans x = new BufferLoans();
        type(x, plans);
        x.openAll();
        return x;
    }

    void end(String name) {
        System.out.println(name + ": " + right + " answers as due, " + wrong + " not");
        if (wrong != 0 || right == 0) {
            System.exit(1);
        }
    }
}
