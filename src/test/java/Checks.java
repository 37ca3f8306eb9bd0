import java.util.function.LongSupplier;
import java.util.function.Supplier;

/** Counts the answers that are due and prints every one that is not. */
final class Checks {
    private int right;
    private int wrong;

    void same(String what, long got, long due) {
        if (got == due) {
            right++;
        } else {
            wrong++;
            System.out.println(what + " answered " + got + ", due is " + due);
        }
    }

    /** The answer as it is printed, or the name of the exception. */
    void answers(String what, String due, Supplier<Object> call) {
        String got;
        try {
            got = String.valueOf(call.get());
        } catch (RuntimeException e) {
            got = e.getClass().getSimpleName();
        }
        if (got.equals(due)) {
            right++;
        } else {
            wrong++;
            System.out.println(what + " answered " + got + ", due is " + due);
        }
    }

    /** The exception must be of that very class, so that none of the machine's own passes for it. */
    void refused(String what, Class<? extends Exception> due, LongSupplier call) {
        String got;
        try {
            got = "answered " + call.getAsLong();
        } catch (RuntimeException e) {
            if (e.getClass() == due) {
                right++;
                return;
            }
            got = "threw " + e;
        }
        wrong++;
        System.out.println(what + " " + got + ", due is " + due.getSimpleName());
    }

    /** A call that throws changes nothing. */
    void refused(BufferLoans x, String what, Class<? extends Exception> due, LongSupplier call) {
        long before = x.digest();
        refused(what, due, call);
        same("digest behind the refused " + what, x.digest(), before);
    }

    /** The call saves one state, of fewer than 6, and undo leads back to it. */
    void undoable(BufferLoans x, String what, LongSupplier call, long due) {
        int saved = x.count(9);
        same("fewer than 6 states ahead of " + what, Math.min(saved, 5), saved);
        long before = x.digest();
        same(what, call.getAsLong(), due);
        same("count(9) behind " + what, x.count(9), saved + 1);
        long after = x.digest();
        same("undo of " + what, x.undo(), saved);
        same("digest behind undo of " + what, x.digest(), before);
        same(what + " again", call.getAsLong(), due);
        same("digest behind " + what + " again", x.digest(), after);
    }

    static long mixed(long hash, long... values) {
        long h = hash;
        for (long value : values) {
            h = 31 * h + value;
        }
        return h;
    }

    static long bits(double value) {
        return Double.doubleToLongBits(value);
    }

    static void type(BufferLoans x, String text) {
        for (int i = 0; i < text.length(); i++) {
            x.append(text.charAt(i));
        }
    }

    /** A desk with these plans, as they stand in a text. */
    static BufferLoans desk(String plans) {
        BufferLoans x = new BufferLoans();
        type(x, plans);
        x.openAll();
        return x;
    }

    void end(String name) {
        System.out.println(name + ": " + right + " answers as due, " + wrong + " not");
        if (wrong != 0 || right == 0) {
            System.exit(1);
        }
    }
}
