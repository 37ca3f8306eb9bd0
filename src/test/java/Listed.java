import java.util.ArrayList;
import java.util.List;
import java.util.function.Supplier;

/** The values of the digest, in the document's order, as the other calls tell them. */
final class Listed {
    private Listed() {
    }

    /** Each part is told by an object of its own, as one object is used for at most 512 calls. */
    static List<Long> values(Supplier<BufferLoans> make, String text) {
        List<Long> v = new ArrayList<>();
        BufferLoans x = make.get();
        for (int what = 0; what <= 9; what++) {
            v.add((long) x.count(what));
        }
        for (int setting = 0; setting <= 2; setting++) {
            v.add((long) x.setting(setting));
        }
        for (int p = 0; p < v.get(0); p++) {
            addProject(v, make.get(), p);
        }
        for (int place = 0; place < v.get(2); place++) {
            for (int what = 0; what <= 2; what++) {
                v.add((long) x.loan(place, what));
            }
        }
        v.add((long) x.weakest());
        v.add(Checks.bits(x.lateShare()));
        v.add((long) text.length());
        for (char code : text.toCharArray()) {
            v.add((long) code);
        }
        return v;
    }

    private static void addProject(List<Long> v, BufferLoans x, int p) {
        for (int what = 0; what <= 14; what++) {
            v.add((long) x.project(p, what));
        }
        int tasks = x.project(p, 7);
        for (int task = 0; task < tasks; task++) {
            for (int what = 0; what <= 5; what++) {
                v.add((long) x.task(p, task, what));
            }
        }
        for (int place = 0; place <= 2; place++) {
            v.add((long) x.lender(p, place));
        }
        v.add((long) x.bears(p));
        for (int what = 0; what <= 4; what++) {
            v.add((long) x.ifDone(p, 60, what));
        }
        v.add((long) x.bestRule(p, 60));
        int projects = x.count(0);
        for (int q = 0; q < projects; q++) {
            v.add((long) x.owed(p, q));
        }
    }
}
