import java.util.ArrayList;
import java.util.List;

/** What can be seen of an object, as rows of numbers. */
final class Looks {
    private static final int[] DAYS = {2, 3, 4, 5, 6, 10, 11};

    private Looks() {
    }

    /** left, used, owes, lent out, late, won, lost */
    static long[] days(BufferLoans x, int project) {
        long[] parts = new long[DAYS.length];
        for (int i = 0; i < DAYS.length; i++) {
            parts[i] = x.project(project, DAYS[i]);
        }
        return parts;
    }

    /** planned, done in, charged to the days left, to days called back, to days borrowed, late */
    static long[] task(BufferLoans x, int project, int task) {
        long[] parts = new long[6];
        for (int what = 0; what < 6; what++) {
            parts[what] = x.task(project, task, what);
        }
        return parts;
    }

    /** lender, borrower and days of each loan, in their order */
    static long[] loans(BufferLoans x) {
        long[] parts = new long[3 * x.count(2)];
        for (int i = 0; i < parts.length; i++) {
            parts[i] = x.loan(i / 3, i % 3);
        }
        return parts;
    }

    static long[] lenders(BufferLoans x, int project) {
        long[] numbers = new long[5];
        for (int place = 0; place < 5; place++) {
            numbers[place] = x.lender(project, place);
        }
        return numbers;
    }

    static long[] settings(BufferLoans x) {
        return new long[] {x.setting(0), x.setting(1), x.setting(2)};
    }

    /** What undo restores, but for the projects. */
    static List<Long> ofDesk(BufferLoans x) {
        List<Long> all = new ArrayList<>();
        for (int what = 0; what <= 8; what++) {
            all.add((long) x.count(what));
        }
        add(all, settings(x));
        add(all, loans(x));
        add(all, x.weakest(), Checks.bits(x.lateShare()));
        return all;
    }

    /** What undo restores of a project: no more than some 110 calls. */
    static List<Long> ofProject(BufferLoans x, int p) {
        List<Long> all = new ArrayList<>();
        for (int what = 0; what <= 14; what++) {
            all.add((long) x.project(p, what));
        }
        for (int t = 0; t < all.get(7); t++) {
            add(all, task(x, p, t));
        }
        add(all, lenders(x, p));
        for (int days = 0; days <= 300; days += 60) {
            for (int what = 0; what <= 4; what++) {
                all.add((long) x.ifDone(p, days, what));
            }
        }
        add(all, x.bears(p), x.bestRule(p, 60));
        for (int q = x.count(0) - 1; q >= 0; q--) {
            all.add((long) x.owed(p, q));
        }
        return all;
    }

    private static void add(List<Long> all, long... values) {
        for (long value : values) {
            all.add(value);
        }
    }
}
