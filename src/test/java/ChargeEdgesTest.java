import java.util.function.Supplier;

/** The boundary cases of promise 6 and of 'Doing a task'. */
public final class ChargeEdgesTest {
    private static final String BACK_FROM_SPARED = "and then the project pays back as many days as it can, but at "
        + "most the spared ones, loan by loan in their order.";
    private static final String TO_OWN = "(a) to the days left of the project, as many as there are";
    private static final String TO_CALLED = "(b) to days that are called back: loan by loan, in their order, of those "
        + "in which the project is the lender: as many as the borrower has left, at most the loan (they are paid back, "
        + "and used at once)";
    private static final String TO_BORROWED = "(c) to days that are borrowed: from each other open project, in the "
        + "order of the lenders, as many as it can lend (they are lent to this one, and used at once)";
    private static final String AHEAD = "Then, if the project has another task, it pays back ahead of new work: its "
        + "days left times setting 2, divided by 100, loan by loan in their order, at most what it owes.";
    private static final String BEHIND_CALLS = "(What they can lend, and their order, is that behind the days that are "
        + "called back, ahead of the first loan.)";
    private static final Edges EDGES = new Edges();

    public static void main(String[] args) {
        rangeOfDays();
        withoutProject();
        withoutTask();
        firstNamed();
        tasksInOrder();
        fewerDaysThanPlanned();
        mostDaysSpared();
        spareDaysPaidBack();
        sparedWithNothingLeft();
        sparedAmongOthers();
        ownDays();
        daysCalledBack();
        borrowerWithFewerDays();
        callsOnlyWhereItLends();
        calledAmongOthers();
        daysBorrowed();
        borrowedOnAnOldLoan();
        borrowedFromOpenOnes();
        shareAhead();
        shareOfSeveralLoans();
        aheadAmongOthers();
        aheadAtMostWhatItOwes();
        aheadOfAnotherTaskOnly();
        aheadBehindADelay();
        lendersBehindCalls();
        lentBehindCalls();
        EDGES.end("ChargeEdgesTest");
    }

    private static Supplier<BufferLoans> made(String plans) {
        return () -> Checks.desk(plans);
    }

    private static void rangeOfDays() {
        EDGES.about("`days`: 0 to 300");
        int[][] due = {{0, 17, -10, 0}, {1, 16, -9, 0}, {10, 7, 0, 0}, {17, 0, 7, 0}, {18, 0, 7, 1},
            {299, 0, 7, 282}, {300, 0, 7, 283}};
        for (int[] row : due) {
            int days = row[0];
            EDGES.undoable("done(0, " + days + ")", made("5:7:10"), x -> x.done(0, days), row[3]);
            BufferLoans x = Checks.desk("5:7:10");
            x.done(0, days);
            EDGES.row("days behind done(0, " + days + ")", Looks.days(x, 0), row[1], row[2], 0, 0, row[3], 0, 0);
            EDGES.same("days in which it was done", x.task(0, 0, 1), days);
            EDGES.same("days in which tasks were done", x.project(0, 13), days);
        }
        for (int days : new int[] {-1, -2, 301, 302, Integer.MIN_VALUE, Integer.MAX_VALUE}) {
            EDGES.refused("done(0, " + days + ")", Edges.VALUE, made("5:7:10"), x -> x.done(0, days));
        }
    }

    private static void withoutProject() {
        EDGES.about("Throws `IndexOutOfBoundsException` if there is no such project");
        EDGES.undoable("done of the last project", made("5:7:10;5:7:10"), x -> x.done(1, 10), 0);
        for (int project : new int[] {2, 3, 6, -1, Integer.MIN_VALUE, Integer.MAX_VALUE}) {
            EDGES.refused("done(" + project + ", 10) of 2", Edges.PLACE, made("5:7:10;5:7:10"),
                x -> x.done(project, 10));
        }
    }

    private static BufferLoans withoutNext() {
        // no task, a task that is done, closed without a task, closed with one that is done
        BufferLoans x = Checks.desk("5:7:10;5:7:10");
        x.done(0, 10);
        x.done(1, 10);
        x.open(5, 5);
        x.open(5, 5);
        x.close(1);
        x.close(3);
        return x;
    }

    private static void withoutTask() {
        EDGES.about("Throws `IllegalStateException` if the project is closed, or has no task that is not done");
        for (int project = 0; project < 4; project++) {
            int p = project;
            EDGES.refused("done(" + p + ", 10)", Edges.STATE, ChargeEdgesTest::withoutNext, x -> x.done(p, 10));
        }
        EDGES.refused("a ninth done", Edges.STATE, () -> {
            BufferLoans x = Checks.desk("5:7:1+2+3+4+5+6+7+8");
            for (int task = 0; task < 8; task++) {
                x.done(0, 1);
            }
            return x;
        }, x -> x.done(0, 1));
        EDGES.undoable("done of a task that is planned behind all", () -> {
            BufferLoans x = withoutNext();
            x.plan(0, 6);
            return x;
        }, x -> x.done(0, 6 + 7 + 4 + 1), 1);
    }

    private static void firstNamed() {
        EDGES.about("If several exceptions apply, the one that is named first in the throws clause is thrown.");
        EDGES.refused("done(4, -1) of 4", Edges.PLACE, ChargeEdgesTest::withoutNext, x -> x.done(4, -1));
        EDGES.refused("done(-1, 301)", Edges.PLACE, ChargeEdgesTest::withoutNext, x -> x.done(-1, 301));
        for (int project = 0; project < 4; project++) {
            int p = project;
            EDGES.refused("done(" + p + ", -1)", Edges.VALUE, ChargeEdgesTest::withoutNext, x -> x.done(p, -1));
            EDGES.refused("done(" + p + ", 301)", Edges.VALUE, ChargeEdgesTest::withoutNext, x -> x.done(p, 301));
        }
    }

    private static void tasksInOrder() {
        EDGES.about("each planned with 1 to 60 days, that are done one by one in their order");
        BufferLoans x = Checks.desk("5:99:1+2+3+4+5+6+7+8");
        for (int task = 0; task < 8; task++) {
            EDGES.same("tasks done ahead of " + task, x.project(0, 8), task);
            EDGES.row("ahead of it", Looks.task(x, 0, task), 1 + task, -1, 0, 0, 0, 0);
            EDGES.same("late days", x.done(0, 2 + 2 * task), 0);
            EDGES.row("behind it", Looks.task(x, 0, task), 1 + task, 2 + 2 * task, 1 + task, 0, 0, 0);
        }
        EDGES.same("tasks done", x.project(0, 8), 8);
        EDGES.row("days", Looks.days(x, 0), 99 - 36, 36, 0, 0, 0, 0, 0);
    }

    private static void fewerDaysThanPlanned() {
        EDGES.about("If these are fewer than planned, the days that are spared come to the days left");
        int[][] due = {{0, 13, -10}, {1, 12, -9}, {9, 4, -1}, {10, 3, 0}, {11, 2, 1}};
        for (int[] row : due) {
            BufferLoans x = Checks.desk("5:3:10");
            EDGES.same("late days", x.done(0, row[0]), 0);
            EDGES.row("days behind done(0, " + row[0] + ")", Looks.days(x, 0), row[1], row[2], 0, 0, 0, 0, 0);
            EDGES.row("task", Looks.task(x, 0, 0), 10, row[0], Math.max(0, row[0] - 10), 0, 0, 0);
        }
    }

    private static void mostDaysSpared() {
        EDGES.about("If these are fewer than planned, the days that are spared come to the days left");
        BufferLoans x = Checks.desk("5:99:60+60+60+60+60+60+60+60;5:0:1");
        for (int task = 0; task < 8; task++) {
            x.done(0, 0);
        }
        EDGES.row("days", Looks.days(x, 0), 99 + 480, -480, 0, 0, 0, 0, 0);
        EDGES.same("days in which tasks were done", x.project(0, 13), 0);
        EDGES.same("days planned", x.project(0, 12), 480);
        EDGES.same("days that it can lend", x.project(0, 14), 579 - 29);
        // borrows all but those that are kept
        EDGES.same("late days", x.done(1, 300), 0);
        EDGES.row("loans", Looks.loans(x), 0, 1, 299);
    }

    // project 0 has 7 days left and owes 3 and 4 of them; its task is the last one
    private static BufferLoans owingTwo(String plans) {
        BufferLoans x = Checks.desk(plans);
        x.lend(1, 0, 3);
        x.lend(2, 0, 4);
        return x;
    }

    private static void spareDaysPaidBack() {
        EDGES.about(BACK_FROM_SPARED);
        long[][] due = {{1, 0, 3, 2, 0, 4}, {1, 0, 2, 2, 0, 4}, {1, 0, 1, 2, 0, 4}, {2, 0, 4}, {2, 0, 3}, {2, 0, 2},
            {2, 0, 1}, {}, {}, {}};
        for (int spared = 0; spared < due.length; spared++) {
            BufferLoans x = owingTwo("5:0:20;5:9:1;5:9:1");
            EDGES.same("late days", x.done(0, 20 - spared), 0);
            EDGES.row("loans with " + spared + " spared", Looks.loans(x), due[spared]);
            int paid = Math.min(spared, 7);
            EDGES.row("days", Looks.days(x, 0), 7 + spared - paid, -spared, 7 - paid, 0, 0, 0, 0);
            EDGES.same("left of the first lender", x.project(1, 2), 6 + Math.min(paid, 3));
            EDGES.same("left of the second lender", x.project(2, 2), 5 + Math.max(0, paid - 3));
        }
    }

    private static void sparedWithNothingLeft() {
        EDGES.about(BACK_FROM_SPARED);
        for (int spared = 0; spared <= 7; spared++) {
            // all days are used, and 5 are borrowed
            BufferLoans x = Checks.desk("5:0:10+10;5:20:1");
            x.done(0, 15);
            EDGES.same("late days", x.done(0, 10 - spared), 0);
            int paid = Math.min(spared, 5);
            EDGES.same("owed with " + spared + " spared", x.owed(0, 1), 5 - paid);
            EDGES.row("days", Looks.days(x, 0), spared - paid, 5 - spared, 5 - paid, 0, 0, 0, 0);
            EDGES.row("lender", Looks.days(x, 1), 15 + paid, 0, 0, 5 - paid, 0, 0, 0);
        }
    }

    // project 0 has 4 days left, owes 2 and 3, and is owed 1; other loans stand ahead and between
    private static BufferLoans owingAmongOthers(String first) {
        BufferLoans x = Checks.desk(first + ";5:20:1;5:20:1;5:20:1");
        x.lend(3, 2, 1);
        x.lend(1, 0, 2);
        x.lend(0, 3, 1);
        x.lend(2, 0, 3);
        x.lend(3, 1, 2);
        return x;
    }

    private static final long[][] PAID_AMONG_OTHERS = {
        {3, 2, 1, 1, 0, 2, 0, 3, 1, 2, 0, 3, 3, 1, 2},
        {3, 2, 1, 1, 0, 1, 0, 3, 1, 2, 0, 3, 3, 1, 2},
        {3, 2, 1, 0, 3, 1, 2, 0, 3, 3, 1, 2},
        {3, 2, 1, 0, 3, 1, 2, 0, 2, 3, 1, 2},
        {3, 2, 1, 0, 3, 1, 2, 0, 1, 3, 1, 2},
        {3, 2, 1, 0, 3, 1, 3, 1, 2},
    };

    private static void sparedAmongOthers() {
        EDGES.about(BACK_FROM_SPARED);
        for (int spared = 0; spared <= 6; spared++) {
            BufferLoans x = owingAmongOthers("5:0:20");
            x.done(0, 20 - spared);
            int paid = Math.min(spared, 5);
            EDGES.row("loans with " + spared + " spared", Looks.loans(x), PAID_AMONG_OTHERS[paid]);
            EDGES.row("days", Looks.days(x, 0), 4 + spared - paid, -spared, 5 - paid, 1, 0, 0, 0);
        }
    }

    private static void aheadAmongOthers() {
        EDGES.about(AHEAD);
        for (int percent = 0; percent <= 100; percent += 5) {
            BufferLoans x = owingAmongOthers("5:0:20+20");
            x.set(2, percent);
            x.done(0, 20);
            int paid = percent < 25 ? 0 : percent < 50 ? 1 : percent < 75 ? 2 : percent < 100 ? 3 : 4;
            EDGES.row("loans with " + percent + " percent of 4", Looks.loans(x), PAID_AMONG_OTHERS[paid]);
            EDGES.row("days", Looks.days(x, 0), 4 - paid, 0, 5 - paid, 1, 0, 0, 0);
        }
    }

    private static void calledAmongOthers() {
        EDGES.about(TO_CALLED);
        long[][] due = {
            {2, 3, 1, 0, 1, 2, 3, 0, 1, 0, 2, 3, 1, 3, 2},
            {2, 3, 1, 0, 1, 1, 3, 0, 1, 0, 2, 3, 1, 3, 2},
            {2, 3, 1, 3, 0, 1, 0, 2, 3, 1, 3, 2},
            {2, 3, 1, 3, 0, 1, 0, 2, 2, 1, 3, 2},
            {2, 3, 1, 3, 0, 1, 0, 2, 1, 1, 3, 2},
            {2, 3, 1, 3, 0, 1, 1, 3, 2},
            {2, 3, 1, 3, 0, 1, 1, 3, 2},
        };
        for (int called = 0; called < due.length; called++) {
            // project 0 has nothing left, is owed 2 and 3, and owes 1
            BufferLoans x = Checks.desk("5:4:10;5:20:1;5:20:1;5:20:1");
            x.lend(2, 3, 1);
            x.lend(0, 1, 2);
            x.lend(3, 0, 1);
            x.lend(0, 2, 3);
            x.lend(1, 3, 2);
            x.set(1, 100);
            int most = Math.min(called, 5);
            // project 3 alone has more left than its buffer: it can lend 2
            int lent = called - most;
            x.done(0, 10 + called);
            EDGES.row("task", Looks.task(x, 0, 0), 10, 10 + called, 0, most, lent, 0);
            long[] loans = due[called].clone();
            if (lent > 0) {
                loans[5] += lent;
            }
            EDGES.row("loans with " + called + " called back", Looks.loans(x), loans);
        }
    }

    private static void ownDays() {
        EDGES.about(TO_OWN);
        int[][] due = {{1, 1, 0}, {4, 4, 0}, {5, 5, 0}, {6, 5, 1}, {7, 5, 2}};
        for (int[] row : due) {
            BufferLoans x = Checks.desk("5:5:10");
            EDGES.same("late days", x.done(0, 10 + row[0]), row[2]);
            EDGES.row("task", Looks.task(x, 0, 0), 10, 10 + row[0], row[1], 0, 0, row[2]);
            EDGES.row("days", Looks.days(x, 0), 5 - row[1], row[1], 0, 0, row[2], 0, 0);
        }
        BufferLoans y = Checks.desk("5:0:10");
        EDGES.same("late days with nothing left", y.done(0, 11), 1);
        EDGES.row("task with nothing left", Looks.task(y, 0, 0), 10, 11, 0, 0, 0, 1);
    }

    private static void daysCalledBack() {
        EDGES.about(TO_CALLED);
        long[][] due = {{0, 1, 3, 0, 2, 4}, {0, 1, 2, 0, 2, 4}, {0, 1, 1, 0, 2, 4}, {0, 2, 4}, {0, 2, 3}, {0, 2, 2},
            {0, 2, 1}, {}, {}, {}};
        for (int delay = 0; delay < due.length; delay++) {
            // nothing is left, and the borrowers keep their whole buffers
            BufferLoans x = Checks.desk("5:7:10;5:10:1;5:10:1");
            x.set(1, 100);
            x.lend(0, 1, 3);
            x.lend(0, 2, 4);
            int called = Math.min(delay, 7);
            EDGES.same("late days", x.done(0, 10 + delay), delay - called);
            EDGES.row("loans with a delay of " + delay, Looks.loans(x), due[delay]);
            EDGES.row("task", Looks.task(x, 0, 0), 10, 10 + delay, 0, called, 0, delay - called);
            EDGES.row("days", Looks.days(x, 0), 0, called, 0, 7 - called, delay - called, 0, 0);
            EDGES.same("left of the first borrower", x.project(1, 2), 13 - Math.min(called, 3));
            EDGES.same("left of the second borrower", x.project(2, 2), 14 - Math.max(0, called - 3));
        }
    }

    // project 1 has used some of the 3 days that it has borrowed of project 0
    private static BufferLoans withUsedDays(int used) {
        BufferLoans x = Checks.desk("5:7:10;5:0:1+1;5:0:1");
        x.set(2, 0);
        x.lend(0, 1, 3);
        x.lend(0, 2, 4);
        x.done(1, 1 + used);
        return x;
    }

    private static void borrowerWithFewerDays() {
        EDGES.about(TO_CALLED);
        BufferLoans none = withUsedDays(3);
        EDGES.same("late days with a borrower that has nothing left", none.done(0, 15), 1);
        EDGES.row("loans", Looks.loans(none), 0, 1, 3);
        EDGES.row("task", Looks.task(none, 0, 0), 10, 15, 0, 4, 0, 1);
        BufferLoans one = withUsedDays(2);
        EDGES.same("late days with a borrower that has one left", one.done(0, 15), 0);
        EDGES.row("loans", Looks.loans(one), 0, 1, 2);
        EDGES.row("task", Looks.task(one, 0, 0), 10, 15, 0, 5, 0, 0);
        EDGES.same("left of the borrower", one.project(1, 2), 0);
        BufferLoans late = withUsedDays(2);
        EDGES.same("late days behind all that are left", late.done(0, 16), 1);
        BufferLoans all = withUsedDays(0);
        EDGES.same("late days with borrowers that have all left", all.done(0, 17), 0);
        EDGES.row("loans", Looks.loans(all));
    }

    private static void callsOnlyWhereItLends() {
        EDGES.about(TO_CALLED);
        BufferLoans x = Checks.desk("5:0:10;5:10:1;5:9:1");
        x.set(1, 100);
        x.lend(1, 0, 4);
        x.lend(2, 1, 3);
        // 4 own days; what it owes, and what others owe to others, is not called back
        EDGES.same("late days", x.done(0, 15), 1);
        EDGES.row("task", Looks.task(x, 0, 0), 10, 15, 4, 0, 0, 1);
        EDGES.row("loans", Looks.loans(x), 1, 0, 4, 2, 1, 3);
    }

    private static void daysBorrowed() {
        EDGES.about(TO_BORROWED + "; (d) the rest is late.");
        long[][] due = {{}, {2, 0, 1}, {2, 0, 5}, {2, 0, 6}, {2, 0, 6, 1, 0, 1}, {2, 0, 6, 1, 0, 6}, {2, 0, 6, 1, 0, 6}};
        int[] delays = {0, 1, 5, 6, 7, 12, 13};
        for (int i = 0; i < due.length; i++) {
            // both others can lend 6
            BufferLoans x = Checks.desk("5:0:10;3:10:1;7:10:1");
            x.set(1, 40);
            int delay = delays[i];
            int borrowed = Math.min(delay, 12);
            EDGES.same("late days", x.done(0, 10 + delay), delay - borrowed);
            EDGES.row("loans with a delay of " + delay, Looks.loans(x), due[i]);
            EDGES.row("task", Looks.task(x, 0, 0), 10, 10 + delay, 0, 0, borrowed, delay - borrowed);
            EDGES.row("days", Looks.days(x, 0), 0, borrowed, borrowed, 0, delay - borrowed, 0, 0);
        }
    }

    private static void borrowedOnAnOldLoan() {
        EDGES.about("days that are lent to the same one once more come to the same loan");
        BufferLoans x = Checks.desk("5:0:10;7:10:1;3:10:1");
        x.lend(2, 0, 1);
        x.lend(0, 1, 1);
        x.set(1, 40);
        // project 1 is called for its day, and then lends 6, and project 2 5 more
        EDGES.same("late days", x.done(0, 10 + 1 + 6 + 5), 0);
        EDGES.row("loans", Looks.loans(x), 2, 0, 6, 1, 0, 6);
        EDGES.row("task", Looks.task(x, 0, 0), 10, 22, 0, 1, 11, 0);
    }

    private static void borrowedFromOpenOnes() {
        EDGES.about(TO_BORROWED);
        BufferLoans x = Checks.desk("5:0:10;3:10:1;9:10:1");
        x.done(2, 1);
        x.close(2);
        EDGES.same("late days beside a closed one", x.done(0, 18), 1);
        EDGES.row("loans", Looks.loans(x), 1, 0, 7);
        EDGES.same("left of the closed one", x.project(2, 2), 10);
        BufferLoans alone = Checks.desk("5:4:10");
        EDGES.same("late days alone", alone.done(0, 15), 1);
        EDGES.row("loans", Looks.loans(alone));
    }

    private static void paid(int left, int percent, int due) {
        // project 0 has so many days left and owes them all
        BufferLoans x = Checks.desk("5:0:5+5;5:99:1");
        x.lend(1, 0, left);
        x.set(2, percent);
        EDGES.same("late days", x.done(0, 5), 0);
        EDGES.same(percent + " percent of " + left + " paid", left - x.owed(0, 1), due);
        EDGES.same("left", x.project(0, 2), left - due);
        EDGES.same("loans", x.count(2), due == left ? 0 : 1);
    }

    private static void shareAhead() {
        EDGES.about("divisions are rounded down.");
        int[][] due = {{1, 0, 0}, {1, 99, 0}, {1, 100, 1}, {3, 0, 0}, {3, 33, 0}, {3, 34, 1}, {3, 66, 1}, {3, 67, 2},
            {3, 99, 2}, {3, 100, 3}, {99, 1, 0}, {99, 2, 1}, {99, 50, 49}, {99, 99, 98}, {99, 100, 99}, {50, 1, 0},
            {50, 2, 1}, {2, 50, 1}, {2, 49, 0}};
        for (int[] row : due) {
            paid(row[0], row[1], row[2]);
        }
    }

    private static void shareOfSeveralLoans() {
        EDGES.about(AHEAD);
        int[] percents = {0, 14, 15, 42, 43, 57, 58, 99, 100};
        int[] paid = {0, 0, 1, 2, 3, 3, 4, 6, 7};
        long[][] due = {{1, 0, 3, 2, 0, 4}, {1, 0, 3, 2, 0, 4}, {1, 0, 2, 2, 0, 4}, {1, 0, 1, 2, 0, 4}, {2, 0, 4},
            {2, 0, 4}, {2, 0, 3}, {2, 0, 1}, {}};
        for (int i = 0; i < due.length; i++) {
            BufferLoans x = owingTwo("5:0:5+5;5:9:1;5:9:1");
            x.set(2, percents[i]);
            x.done(0, 5);
            EDGES.row("loans with " + percents[i] + " percent of 7", Looks.loans(x), due[i]);
            EDGES.row("days", Looks.days(x, 0), 7 - paid[i], 0, 7 - paid[i], 0, 0, 0, 0);
        }
    }

    private static void aheadAtMostWhatItOwes() {
        EDGES.about(AHEAD);
        int[][] due = {{8, 0}, {9, 1}, {16, 1}, {17, 2}, {50, 2}, {100, 2}};
        for (int[] row : due) {
            BufferLoans x = Checks.desk("5:10:5+5;5:99:1");
            x.lend(1, 0, 2);
            x.set(2, row[0]);
            x.done(0, 5);
            EDGES.same("owed with " + row[0] + " percent of 12", x.owed(0, 1), 2 - row[1]);
            EDGES.same("left", x.project(0, 2), 12 - row[1]);
        }
        BufferLoans y = Checks.desk("5:10:5+5;5:99:1");
        y.set(2, 100);
        y.done(0, 5);
        EDGES.same("left if it owes nothing", y.project(0, 2), 10);
    }

    private static void aheadOfAnotherTaskOnly() {
        EDGES.about(AHEAD);
        for (int days : new int[] {5, 6}) {
            BufferLoans x = Checks.desk("5:10:5;5:99:1");
            x.lend(1, 0, 2);
            x.set(2, 100);
            x.done(0, days);
            EDGES.same("owed behind the last task in " + days, x.owed(0, 1), 2);
            BufferLoans y = Checks.desk("5:10:5+5;5:99:1");
            y.lend(1, 0, 2);
            y.set(2, 100);
            y.done(0, days);
            EDGES.same("owed ahead of the last task behind " + days, y.owed(0, 1), 0);
        }
        BufferLoans z = Checks.desk("5:0:5+5;5:99:1");
        z.lend(1, 0, 8);
        z.set(2, 25);
        // 1 spared day, and then a quarter of the 8 that are left
        z.done(0, 4);
        EDGES.same("owed behind a spared day", z.owed(0, 1), 5);
    }

    private static void aheadBehindADelay() {
        EDGES.about(AHEAD);
        int[][] due = {{1, 6, 6}, {6, 4, 4}, {11, 1, 1}, {12, 0, 1}, {13, 0, 0}};
        for (int[] row : due) {
            // of 14 days left some are used, and half of the rest is paid back
            BufferLoans x = Checks.desk("5:7:5+5;5:10:1");
            x.set(1, 100);
            x.lend(1, 0, 7);
            x.done(0, 5 + row[0]);
            int rest = 14 - row[0];
            EDGES.same("paid with " + rest + " left", 7 - x.owed(0, 1), rest / 2);
            EDGES.same("left", x.project(0, 2), rest - rest / 2);
        }
        BufferLoans none = Checks.desk("5:0:5+5;5:10:1");
        none.set(2, 100);
        none.done(0, 8);
        EDGES.same("owed with nothing left", none.owed(0, 1), 3);
    }

    // Ahead of the call project 1 can lend 17 and project 2 10; when 8 are called back, 9 and 10.
    private static BufferLoans withCallAhead() {
        BufferLoans x = Checks.desk("5:10:5;5:18:1;5:20:1");
        x.set(1, 50);
        x.set(0, 1);
        x.lend(0, 1, 8);
        return x;
    }

    private static void lendersBehindCalls() {
        EDGES.about(BEHIND_CALLS);
        BufferLoans x = withCallAhead();
        EDGES.row("lenders ahead of it", Looks.lenders(x, 0), 1, 2, -1, -1, -1);
        EDGES.same("late days", x.done(0, 5 + 2 + 8 + 5), 0);
        EDGES.row("loans", Looks.loans(x), 2, 0, 5);
        BufferLoans y = withCallAhead();
        EDGES.same("late days of a call in part", y.done(0, 5 + 2 + 7), 0);
        EDGES.row("loans", Looks.loans(y), 0, 1, 1);
        BufferLoans z = withCallAhead();
        EDGES.same("late days behind all", z.done(0, 5 + 2 + 8 + 19 + 1), 1);
        EDGES.row("loans", Looks.loans(z), 2, 0, 10, 1, 0, 9);
    }

    private static void lentBehindCalls() {
        EDGES.about(BEHIND_CALLS);
        for (int left = 8; left <= 12; left++) {
            // project 1 keeps 10, and has so many left behind the 5 that are called back
            BufferLoans x = Checks.desk("5:5:5;5:20:1+1");
            x.set(1, 50);
            x.set(2, 0);
            x.done(1, 1 + 20 - left);
            x.lend(0, 1, 5);
            EDGES.same("a lender ahead of it", x.lender(0, 0), 1);
            int lent = Math.max(0, left - 10);
            EDGES.same("late days with " + left, x.done(0, 5 + 5 + 3), 3 - lent);
            EDGES.row("task", Looks.task(x, 0, 0), 5, 13, 0, 5, lent, 3 - lent);
            EDGES.same("left of the lender", x.project(1, 2), left - lent);
        }
    }
}
