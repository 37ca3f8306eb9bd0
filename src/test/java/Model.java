import java.util.ArrayList;
import java.util.Comparator;
import java.util.List;
import java.util.regex.Matcher;
import java.util.regex.Pattern;

/**
 * The document once more, in the plainest form and by other ways than the class: it charges and
 * pays back one day after the other, copies its whole state, and matches texts by a pattern.
 */
final class Model {
    private static final String TASK = "([1-9]|[1-5][0-9]|60)";
    private static final String PROJECT = "[1-9]:(0|[1-9][0-9]?):" + TASK + "(\\+" + TASK + "){0,7}";
    private static final Pattern PLAN = Pattern.compile(PROJECT + "(;" + PROJECT + ")*");

    private static final class Task {
        int planned;
        int taken = -1;
        int own;
        int called;
        int borrowed;
        int late;

        Task copy() {
            Task t = new Task();
            t.planned = planned;
            t.taken = taken;
            t.own = own;
            t.called = called;
            t.borrowed = borrowed;
            t.late = late;
            return t;
        }
    }

    private static final class Project {
        int rank;
        int buffer;
        int left;
        boolean isOpen = true;
        int won;
        int lost;
        final List<Task> tasks = new ArrayList<>();

        Task next() {
            for (Task t : tasks) {
                if (t.taken < 0) {
                    return t;
                }
            }
            return null;
        }

        Project copy() {
            Project p = new Project();
            p.rank = rank;
            p.buffer = buffer;
            p.left = left;
            p.isOpen = isOpen;
            p.won = won;
            p.lost = lost;
            for (Task t : tasks) {
                p.tasks.add(t.copy());
            }
            return p;
        }
    }

    private static final class State {
        final List<Project> projects = new ArrayList<>();
        // lender, borrower, days
        final List<int[]> loans = new ArrayList<>();
        final int[] settings = {0, 30, 50};

        State copy() {
            State s = new State();
            for (Project p : projects) {
                s.projects.add(p.copy());
            }
            for (int[] loan : loans) {
                s.loans.add(loan.clone());
            }
            System.arraycopy(settings, 0, s.settings, 0, 3);
            return s;
        }

        int[] loan(int lender, int borrower) {
            for (int[] loan : loans) {
                if (loan[0] == lender && loan[1] == borrower) {
                    return loan;
                }
            }
            return null;
        }

        int owed(int borrower, int lender) {
            int[] loan = loan(lender, borrower);
            return loan == null ? 0 : loan[2];
        }

        void lendDay(int lender, int borrower) {
            int[] loan = loan(lender, borrower);
            if (loan == null) {
                loan = new int[] {lender, borrower, 0};
                loans.add(loan);
            }
            loan[2]++;
            projects.get(lender).left--;
            projects.get(borrower).left++;
        }

        void payDay(int[] loan) {
            loan[2]--;
            projects.get(loan[0]).left++;
            projects.get(loan[1]).left--;
            loans.removeIf(l -> l[2] == 0);
        }

        /** Pays days back one by one, each to the first loan. */
        void repay(int borrower, int most) {
            for (int day = 0; day < most && projects.get(borrower).left > 0; day++) {
                for (int[] loan : loans) {
                    if (loan[1] == borrower) {
                        payDay(loan);
                        break;
                    }
                }
            }
        }

        int canLend(int p) {
            Project it = projects.get(p);
            return it.isOpen ? Math.max(0, it.left - it.buffer * settings[1] / 100) : 0;
        }

        int lentOut(int p) {
            return loans.stream().filter(l -> l[0] == p).mapToInt(l -> l[2]).sum();
        }

        int owes(int p) {
            return loans.stream().filter(l -> l[1] == p).mapToInt(l -> l[2]).sum();
        }

        List<Integer> lenders(int p) {
            List<Integer> order = new ArrayList<>();
            for (int q = 0; q < projects.size(); q++) {
                if (q != p && canLend(q) > 0) {
                    order.add(q);
                }
            }
            Comparator<Integer> rule = Comparator.comparing(q -> settings[0] == 0 ? -projects.get(q).rank
                : settings[0] == 1 ? -canLend(q) : lentOut(q));
            order.sort(rule.thenComparing(Comparator.naturalOrder()));
            return order;
        }

        boolean callDay(int p) {
            for (int[] loan : loans) {
                if (loan[0] == p && projects.get(loan[1]).left > 0) {
                    payDay(loan);
                    return true;
                }
            }
            return false;
        }

        /** Charges a delay day by day, and tells it in a task. */
        void charge(int p, int delay, Task told) {
            Project it = projects.get(p);
            List<Integer> queue = null;
            for (int day = 0; day < delay; day++) {
                if (queue == null && it.left > 0) {
                    it.left--;
                    told.own++;
                } else if (queue == null && callDay(p)) {
                    it.left--;
                    told.called++;
                } else {
                    if (queue == null) {
                        queue = new ArrayList<>();
                        for (int q : lenders(p)) {
                            for (int i = canLend(q); i > 0; i--) {
                                queue.add(q);
                            }
                        }
                    }
                    if (queue.isEmpty()) {
                        told.late++;
                    } else {
                        lendDay(queue.remove(0), p);
                        it.left--;
                        told.borrowed++;
                    }
                }
            }
        }

        Task doNext(int p, int days) {
            Project it = projects.get(p);
            Task task = it.next();
            task.taken = days;
            if (days < task.planned) {
                it.left += task.planned - days;
                repay(p, task.planned - days);
            } else {
                charge(p, days - task.planned, task);
            }
            if (it.next() != null) {
                repay(p, it.left * settings[2] / 100);
            }
            return task;
        }

        int bears(int p) {
            if (!projects.get(p).isOpen) {
                return -1;
            }
            Task told = new Task();
            // far more than there can be: each day that is not late can be borne
            int delay = 9999;
            copy().charge(p, delay, told);
            return delay - told.late;
        }

        boolean canDo(int p) {
            return projects.get(p).isOpen && projects.get(p).next() != null;
        }
    }

    private State now = new State();
    private final List<State> saved = new ArrayList<>();
    private String text = "";

    private void save() {
        saved.add(now.copy());
        if (saved.size() > 6) {
            saved.remove(0);
        }
    }

    private Project at(int p) {
        if (p < 0 || p >= now.projects.size()) {
            throw new IndexOutOfBoundsException();
        }
        return now.projects.get(p);
    }

    private static void value(boolean isRight) {
        if (!isRight) {
            throw new IllegalArgumentException();
        }
    }

    private static void state(boolean isRight) {
        if (!isRight) {
            throw new IllegalStateException();
        }
    }

    private static boolean in(int x, int least, int greatest) {
        return least <= x && x <= greatest;
    }

    private static void place(boolean isRight) {
        if (!isRight) {
            throw new IndexOutOfBoundsException();
        }
    }

    long open(int rank, int buffer) {
        value(in(rank, 1, 9) && in(buffer, 0, 99));
        state(now.projects.size() < 6);
        save();
        return opened(rank, buffer);
    }

    private int opened(int rank, int buffer) {
        Project p = new Project();
        p.rank = rank;
        p.buffer = buffer;
        p.left = buffer;
        now.projects.add(p);
        return now.projects.size() - 1;
    }

    long plan(int project, int days) {
        Project p = at(project);
        value(in(days, 1, 60));
        state(p.isOpen && p.tasks.size() < 8);
        save();
        return planned(p, days);
    }

    private static int planned(Project p, int days) {
        Task t = new Task();
        t.planned = days;
        p.tasks.add(t);
        return p.tasks.size() - 1;
    }

    long rank(int project, int rank) {
        at(project);
        value(in(rank, 1, 9));
        save();
        int before = at(project).rank;
        at(project).rank = rank;
        return before;
    }

    long set(int setting, int v) {
        place(in(setting, 0, 2));
        value(in(v, 0, setting == 0 ? 2 : 100));
        save();
        int before = now.settings[setting];
        now.settings[setting] = v;
        return before;
    }

    long done(int project, int days) {
        at(project);
        value(in(days, 0, 300));
        state(now.canDo(project));
        save();
        return now.doNext(project, days).late;
    }

    long lend(int lender, int borrower, int days) {
        at(lender);
        at(borrower);
        value(lender != borrower && in(days, 1, 99));
        state(at(lender).isOpen && at(borrower).isOpen && at(lender).left >= days);
        save();
        for (int day = 0; day < days; day++) {
            now.lendDay(lender, borrower);
        }
        return now.owed(borrower, lender);
    }

    long payBack(int borrower, int lender, int days) {
        at(lender);
        at(borrower);
        value(lender != borrower && in(days, 1, 9999));
        state(now.owed(borrower, lender) >= days && at(borrower).left >= days);
        save();
        for (int day = 0; day < days; day++) {
            now.payDay(now.loan(lender, borrower));
        }
        return now.owed(borrower, lender);
    }

    long close(int project) {
        Project p = at(project);
        state(p.isOpen && p.next() == null);
        save();
        p = at(project);
        now.repay(project, p.left);
        int written = 0;
        for (int[] loan : new ArrayList<>(now.loans)) {
            if (loan[0] == project || loan[1] == project) {
                now.projects.get(loan[0]).lost += loan[2];
                now.projects.get(loan[1]).won += loan[2];
                written += loan[2];
                now.loans.remove(loan);
            }
        }
        p.isOpen = false;
        return written;
    }

    long append(int code) {
        value(in(code, 33, 126));
        state(text.length() < 60);
        text = text + (char) code;
        return text.length();
    }

    long clearBuffer() {
        int before = text.length();
        text = "";
        return before;
    }

    long firstError() {
        for (int length = 1; length <= text.length(); length++) {
            Matcher m = PLAN.matcher(text.substring(0, length));
            if (!m.matches() && !m.hitEnd()) {
                return length - 1;
            }
        }
        return text.length();
    }

    long openAll() {
        value(PLAN.matcher(text).matches());
        String[] plans = text.split(";");
        state(now.projects.size() + plans.length <= 6);
        save();
        for (String plan : plans) {
            String[] parts = plan.split(":");
            Project p = now.projects.get(opened(Integer.parseInt(parts[0]), Integer.parseInt(parts[1])));
            for (String days : parts[2].split("\\+")) {
                planned(p, Integer.parseInt(days));
            }
        }
        text = "";
        return now.projects.size();
    }

    long undo() {
        state(!saved.isEmpty());
        now = saved.remove(saved.size() - 1);
        return saved.size();
    }

    long project(int project, int what) {
        Project p = at(project);
        value(in(what, 0, 14));
        int charged = p.tasks.stream().mapToInt(t -> t.own + t.called + t.borrowed).sum();
        int spared = p.tasks.stream().filter(t -> t.taken >= 0).mapToInt(t -> Math.max(0, t.planned - t.taken)).sum();
        int[] parts = {p.rank, p.buffer, p.left, charged - spared, now.owes(project), now.lentOut(project),
            p.tasks.stream().mapToInt(t -> t.late).sum(), p.tasks.size(),
            (int) p.tasks.stream().filter(t -> t.taken >= 0).count(), p.isOpen ? 1 : 0, p.won, p.lost,
            p.tasks.stream().mapToInt(t -> t.planned).sum(),
            p.tasks.stream().mapToInt(t -> Math.max(0, t.taken)).sum(), now.canLend(project)};
        return parts[what];
    }

    long task(int project, int task, int what) {
        Project p = at(project);
        place(in(task, 0, p.tasks.size() - 1));
        value(in(what, 0, 5));
        Task t = p.tasks.get(task);
        return new int[] {t.planned, t.taken, t.own, t.called, t.borrowed, t.late}[what];
    }

    long loan(int at, int what) {
        place(in(at, 0, now.loans.size() - 1));
        value(in(what, 0, 2));
        return now.loans.get(at)[what];
    }

    long owed(int borrower, int lender) {
        at(borrower);
        at(lender);
        return now.owed(borrower, lender);
    }

    long lender(int project, int place) {
        Project p = at(project);
        value(in(place, 0, 4));
        List<Integer> order = now.lenders(project);
        return p.isOpen && place < order.size() ? order.get(place) : -1;
    }

    long count(int what) {
        value(in(what, 0, 9));
        int sum = 0;
        for (int p = 0; p < now.projects.size(); p++) {
            Project it = now.projects.get(p);
            switch (what) {
                case 0 -> sum++;
                case 1 -> sum += it.isOpen ? 1 : 0;
                case 3 -> sum += now.owes(p);
                case 4 -> sum += it.left;
                case 5 -> sum += it.tasks.stream().mapToInt(t -> t.late).sum();
                case 6 -> sum += (int) it.tasks.stream().filter(t -> t.taken >= 0).count();
                case 7 -> sum += it.tasks.stream().filter(t -> t.taken > t.planned).mapToInt(t -> t.taken - t.planned).sum();
                case 8 -> sum += it.lost;
                default -> { }
            }
        }
        return what == 2 ? now.loans.size() : what == 9 ? saved.size() : sum;
    }

    long setting(int setting) {
        place(in(setting, 0, 2));
        return now.settings[setting];
    }

    long ifDone(int project, int days, int what) {
        at(project);
        value(in(days, 0, 300) && in(what, 0, 4));
        if (!now.canDo(project)) {
            return -1;
        }
        State then = now.copy();
        Task t = then.doNext(project, days);
        return new int[] {t.late, t.borrowed, t.called, then.projects.get(project).left, then.owes(project)}[what];
    }

    long bears(int project) {
        at(project);
        return now.bears(project);
    }

    long weakest() {
        int weakest = -1;
        for (int p = now.projects.size() - 1; p >= 0; p--) {
            if (now.projects.get(p).isOpen && (weakest < 0 || now.bears(p) <= now.bears(weakest))) {
                weakest = p;
            }
        }
        return weakest;
    }

    long bestRule(int project, int days) {
        at(project);
        value(in(days, 0, 300));
        if (!now.canDo(project)) {
            return -1;
        }
        int[] least = new int[3];
        for (int rule = 0; rule < 3; rule++) {
            State then = now.copy();
            then.settings[0] = rule;
            then.doNext(project, days);
            least[rule] = then.projects.stream().filter(p -> p.isOpen).mapToInt(p -> p.left).min().orElse(0);
        }
        return least[0] >= least[1] && least[0] >= least[2] ? 0 : least[1] >= least[2] ? 1 : 2;
    }

    double lateShare() {
        return count(7) == 0 ? 0.0 : (double) count(5) / count(7);
    }

    long digest() {
        long h = 2473;
        for (int what = 0; what <= 9; what++) {
            h = 31 * h + count(what);
        }
        for (int v : now.settings) {
            h = 31 * h + v;
        }
        for (int p = 0; p < now.projects.size(); p++) {
            for (int what = 0; what <= 14; what++) {
                h = 31 * h + project(p, what);
            }
            for (Task t : now.projects.get(p).tasks) {
                h = Checks.mixed(h, t.planned, t.taken, t.own, t.called, t.borrowed, t.late);
            }
            h = Checks.mixed(h, lender(p, 0), lender(p, 1), lender(p, 2), bears(p));
            for (int what = 0; what <= 4; what++) {
                h = 31 * h + ifDone(p, 60, what);
            }
            h = 31 * h + bestRule(p, 60);
            for (int q = 0; q < now.projects.size(); q++) {
                h = 31 * h + now.owed(p, q);
            }
        }
        for (int[] loan : now.loans) {
            h = Checks.mixed(h, loan[0], loan[1], loan[2]);
        }
        h = Checks.mixed(h, weakest(), Double.doubleToLongBits(lateShare()), text.length());
        for (char c : text.toCharArray()) {
            h = 31 * h + c;
        }
        return h;
    }
}
