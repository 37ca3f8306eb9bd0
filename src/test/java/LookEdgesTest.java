import java.util.function.Supplier;

/** The boundary cases of promises 15 to 21: project, task, loan, owed, lender, count, setting. */
public final class LookEdgesTest {
    private static final int[] FAR = {-2, -100, Integer.MIN_VALUE, Integer.MAX_VALUE, 1 << 30, 100};
    private static final String LENDERS = "The lenders for a project are the other open projects that can lend some, by "
        + "setting 0: 0: the greatest rank first; 1: the one with most days that it can lend first; 2: the one with "
        + "fewest days that are lent out first; of several the lowest number first.";
    private static final Edges EDGES = new Edges();

    public static void main(String[] args) {
        projectRefused();
        usedBelowNothing();
        daysThatItCanLend();
        canLendBehindUse();
        canLendWhenClosed();
        daysOfTasks();
        taskRefused();
        taskNotDone();
        loanRefused();
        owedRefused();
        owedWithoutALoan();
        lenderRefused();
        notSoManyLenders();
        lendersThatCanLendSome();
        lendersByRank();
        lendersByDays();
        lendersByLent();
        lendersFollowTheRule();
        countRefused();
        counts();
        countsOfFullChains();
        countsOfClosedOnes();
        settingRefused();
        EDGES.end("LookEdgesTest");
    }

    private static Supplier<BufferLoans> made(String plans) {
        return () -> Checks.desk(plans);
    }

    private static BufferLoans six() {
        return Checks.desk("1:10:1;2:20:1;3:30:1;4:40:1;5:50:1;6:60:1");
    }

    // promise 15
    private static void projectRefused() {
        EDGES.about("Throws `IndexOutOfBoundsException` if there is no such project");
        for (int project : new int[] {-1, 2, 3, 6}) {
            EDGES.refused("project(" + project + ", 0) of 2", Edges.PLACE, made("5:9:1;5:9:1"),
                x -> x.project(project, 0));
        }
        for (int project : FAR) {
            EDGES.refused("project(" + project + ", 14)", Edges.PLACE, made("5:9:1"), x -> x.project(project, 14));
        }
        EDGES.refused("project(6, 0) of 6", Edges.PLACE, LookEdgesTest::six, x -> x.project(6, 0));
        EDGES.looks("project(5, 0) of 6", LookEdgesTest::six, x -> x.project(5, 0), 6);
        EDGES.about("Throws `IllegalArgumentException` if what is not 0 to 14");
        EDGES.looks("project(0, 0)", LookEdgesTest::six, x -> x.project(0, 0), 1);
        EDGES.looks("project(0, 14)", LookEdgesTest::six, x -> x.project(0, 14), 7);
        EDGES.refused("project(0, -1)", Edges.VALUE, LookEdgesTest::six, x -> x.project(0, -1));
        EDGES.refused("project(0, 15)", Edges.VALUE, LookEdgesTest::six, x -> x.project(0, 15));
        for (int what : FAR) {
            EDGES.refused("project(0, " + what + ")", Edges.VALUE, LookEdgesTest::six, x -> x.project(0, what));
        }
        EDGES.about("If several exceptions apply, the one that is named first in the throws clause is thrown.");
        EDGES.refused("project(6, 15) of 6", Edges.PLACE, LookEdgesTest::six, x -> x.project(6, 15));
        EDGES.refused("project(-1, -1)", Edges.PLACE, LookEdgesTest::six, x -> x.project(-1, -1));
    }

    private static void usedBelowNothing() {
        EDGES.about("3: days used, less the spared ones (it can be below 0)");
        int[][] due = {{9, -1}, {10, 0}, {11, 1}, {0, -10}, {15, 5}, {16, 5}};
        for (int[] row : due) {
            BufferLoans x = Checks.desk("5:5:10");
            x.done(0, row[0]);
            EDGES.same("used behind done(0, " + row[0] + ")", x.project(0, 3), row[1]);
        }
        BufferLoans y = Checks.desk("5:5:10+10+10");
        y.done(0, 8);
        y.done(0, 11);
        EDGES.same("2 spared and 1 used", y.project(0, 3), -1);
        y.done(0, 13);
        EDGES.same("and 3 used", y.project(0, 3), 2);
    }

    private static void canLend(int buffer, int percent, int due) {
        BufferLoans x = new BufferLoans();
        x.open(5, buffer);
        x.set(1, percent);
        EDGES.same(buffer + " with " + percent + " percent kept", x.project(0, 14), due);
    }

    private static void daysThatItCanLend() {
        EDGES.about("What an open project can lend are its days left less its buffer times setting 1, divided by 100; at "
            + "least 0.");
        int[][] due = {{99, 0, 99}, {99, 1, 99}, {99, 2, 98}, {99, 99, 1}, {99, 100, 0}, {10, 9, 10}, {10, 10, 9},
            {10, 19, 9}, {10, 20, 8}, {10, 30, 7}, {9, 30, 7}, {1, 99, 1}, {1, 100, 0}, {0, 0, 0}, {0, 100, 0},
            {50, 1, 50}, {50, 2, 49}, {3, 33, 3}, {3, 34, 2}, {3, 66, 2}, {3, 67, 1}};
        for (int[] row : due) {
            canLend(row[0], row[1], row[2]);
        }
    }

    private static void canLendBehindUse() {
        EDGES.about("What an open project can lend are its days left less its buffer times setting 1, divided by 100; at "
            + "least 0.");
        int[][] due = {{0, 7}, {1, 6}, {6, 1}, {7, 0}, {8, 0}, {9, 0}, {10, 0}, {11, 0}};
        for (int[] row : due) {
            BufferLoans x = Checks.desk("5:10:1");
            x.done(0, 1 + row[0]);
            EDGES.same("behind a delay of " + row[0], x.project(0, 14), row[1]);
        }
        BufferLoans y = Checks.desk("5:10:9;5:8:1");
        y.lend(1, 0, 8);
        y.set(1, 100);
        EDGES.same("borrowed days can be lent", y.project(0, 14), 8);
        y.done(0, 0);
        EDGES.same("spared days are paid back", y.project(0, 14), 9);
        EDGES.same("those of the lender", y.project(1, 14), 0);
    }

    private static void canLendWhenClosed() {
        EDGES.about("14: days that it can lend (0 if it is closed)");
        BufferLoans x = new BufferLoans();
        x.open(5, 10);
        x.set(1, 0);
        EDGES.same("ahead of it", x.project(0, 14), 10);
        x.close(0);
        EDGES.same("when closed", x.project(0, 14), 0);
        EDGES.same("days left", x.project(0, 2), 10);
    }

    private static void daysOfTasks() {
        EDGES.about("12: days planned for all tasks; 13: days in which tasks were done so far");
        BufferLoans x = Checks.desk("5:9:60+60+60+60+60+60+60+60");
        EDGES.same("days planned", x.project(0, 12), 480);
        EDGES.same("days in which none was done", x.project(0, 13), 0);
        for (int task = 1; task <= 8; task++) {
            x.done(0, task == 1 ? 0 : 300);
            EDGES.same("tasks done", x.project(0, 8), task);
            EDGES.same("days in which they were done", x.project(0, 13), 300 * (task - 1));
            EDGES.same("days planned", x.project(0, 12), 480);
        }
        EDGES.about("6: days that are late");
        // 9 and 60 days are there for 7 delays of 240
        EDGES.same("late days", x.project(0, 6), 7 * 240 - 69);
    }

    // promise 16
    private static void taskRefused() {
        EDGES.about("Throws `IndexOutOfBoundsException` if there is no such project or task");
        Supplier<BufferLoans> make = made("5:9:1+2;5:9:3+4+5;5:9:1+2+3+4+5+6+7+8");
        for (int project : new int[] {-1, 3, 6}) {
            EDGES.refused("task(" + project + ", 0, 0) of 3", Edges.PLACE, make, x -> x.task(project, 0, 0));
        }
        for (int task : new int[] {-1, 2, 3, 7, 8}) {
            EDGES.refused("task(0, " + task + ", 0) of 2", Edges.PLACE, make, x -> x.task(0, task, 0));
        }
        for (int task : FAR) {
            EDGES.refused("task(1, " + task + ", 0)", Edges.PLACE, make, x -> x.task(1, task, 0));
            EDGES.refused("task(" + task + ", 0, 0)", Edges.PLACE, make, x -> x.task(task, 0, 0));
        }
        EDGES.refused("task(2, 8, 0) of 8", Edges.PLACE, make, x -> x.task(2, 8, 0));
        EDGES.looks("task(2, 7, 0) of 8", make, x -> x.task(2, 7, 0), 8);
        EDGES.looks("task(0, 1, 0) of 2", make, x -> x.task(0, 1, 0), 2);
        EDGES.refused("task(5, 0, 0) without a task", Edges.PLACE, () -> {
            BufferLoans x = new BufferLoans();
            x.open(5, 5);
            return x;
        }, x -> x.task(0, 0, 0));
        EDGES.about("Throws `IllegalArgumentException` if what is not 0 to 5");
        EDGES.looks("task(0, 0, 5)", make, x -> x.task(0, 0, 5), 0);
        EDGES.refused("task(0, 0, -1)", Edges.VALUE, make, x -> x.task(0, 0, -1));
        EDGES.refused("task(0, 0, 6)", Edges.VALUE, make, x -> x.task(0, 0, 6));
        for (int what : FAR) {
            EDGES.refused("task(0, 0, " + what + ")", Edges.VALUE, make, x -> x.task(0, 0, what));
        }
        EDGES.about("If several exceptions apply, the one that is named first in the throws clause is thrown.");
        EDGES.refused("task(3, 0, 6) of 3", Edges.PLACE, make, x -> x.task(3, 0, 6));
        EDGES.refused("task(-1, -1, -1)", Edges.PLACE, make, x -> x.task(-1, -1, -1));
        EDGES.refused("task(0, 2, 6) of 2", Edges.PLACE, make, x -> x.task(0, 2, 6));
        EDGES.refused("task(0, -1, -1)", Edges.PLACE, make, x -> x.task(0, -1, -1));
    }

    private static void taskNotDone() {
        EDGES.about("1: the days in which it was done, NONE if it is not done; 2 to 5: of its delay what was charged to "
            + "the days left, to days called back, to days borrowed, and what is late (0 if it is not done)");
        BufferLoans x = Checks.desk("5:4:5+6;5:10:1;5:9:1");
        x.set(2, 0);
        x.lend(0, 2, 1);
        x.set(1, 50);
        x.done(2, 4);
        EDGES.row("not done", Looks.task(x, 0, 0), 5, BufferLoans.NONE, 0, 0, 0, 0);
        // 3 own ones, 1 called back, 5 and 2 borrowed, 1 late
        EDGES.same("late days", x.done(0, 17), 1);
        EDGES.row("done", Looks.task(x, 0, 0), 5, 17, 3, 1, 7, 1);
        EDGES.row("the next one", Looks.task(x, 0, 1), 6, BufferLoans.NONE, 0, 0, 0, 0);
        x.done(0, 0);
        EDGES.row("done in 0 days", Looks.task(x, 0, 1), 6, 0, 0, 0, 0, 0);
        x.undo();
        EDGES.row("behind undo", Looks.task(x, 0, 1), 6, BufferLoans.NONE, 0, 0, 0, 0);
    }

    // promise 17
    private static void loanRefused() {
        EDGES.about("Throws `IndexOutOfBoundsException` if there is no such loan");
        Supplier<BufferLoans> make = () -> {
            BufferLoans x = Checks.desk("5:9:1;5:9:1");
            x.lend(0, 1, 2);
            x.lend(1, 0, 3);
            return x;
        };
        EDGES.looks("loan(1, 2) of 2", make, x -> x.loan(1, 2), 3);
        for (int place : new int[] {-1, 2, 3, 29, 30}) {
            EDGES.refused("loan(" + place + ", 0) of 2", Edges.PLACE, make, x -> x.loan(place, 0));
        }
        for (int place : FAR) {
            EDGES.refused("loan(" + place + ", 0)", Edges.PLACE, make, x -> x.loan(place, 0));
        }
        EDGES.refused("loan(0, 0) of none", Edges.PLACE, made("5:9:1;5:9:1"), x -> x.loan(0, 0));
        Supplier<BufferLoans> all = () -> {
            BufferLoans x = six();
            for (int pair = 0; pair < 36; pair++) {
                if (pair / 6 != pair % 6) {
                    x.lend(pair / 6, pair % 6, 1);
                }
            }
            return x;
        };
        EDGES.looks("loan(29, 0) of 30", all, x -> x.loan(29, 0), 5);
        EDGES.refused("loan(30, 0) of 30", Edges.PLACE, all, x -> x.loan(30, 0));
        EDGES.about("Throws `IllegalArgumentException` if what is not 0 to 2");
        EDGES.looks("loan(0, 0)", make, x -> x.loan(0, 0), 0);
        EDGES.refused("loan(0, -1)", Edges.VALUE, make, x -> x.loan(0, -1));
        EDGES.refused("loan(0, 3)", Edges.VALUE, make, x -> x.loan(0, 3));
        for (int what : FAR) {
            EDGES.refused("loan(0, " + what + ")", Edges.VALUE, make, x -> x.loan(0, what));
        }
        EDGES.about("If several exceptions apply, the one that is named first in the throws clause is thrown.");
        EDGES.refused("loan(2, 3) of 2", Edges.PLACE, make, x -> x.loan(2, 3));
        EDGES.refused("loan(-1, -1)", Edges.PLACE, make, x -> x.loan(-1, -1));
    }

    // promise 18
    private static void owedRefused() {
        EDGES.about("Throws `IndexOutOfBoundsException` if there is no such project");
        for (int project : new int[] {-1, 2, 3, 6}) {
            EDGES.refused("owed(" + project + ", 0) of 2", Edges.PLACE, made("5:9:1;5:9:1"), x -> x.owed(project, 0));
            EDGES.refused("owed(0, " + project + ") of 2", Edges.PLACE, made("5:9:1;5:9:1"), x -> x.owed(0, project));
            EDGES.refused("owed to the same one of 2", Edges.PLACE, made("5:9:1;5:9:1"), x -> x.owed(project, project));
        }
        for (int project : FAR) {
            EDGES.refused("owed(" + project + ", 0)", Edges.PLACE, LookEdgesTest::six, x -> x.owed(project, 0));
            EDGES.refused("owed(0, " + project + ")", Edges.PLACE, LookEdgesTest::six, x -> x.owed(0, project));
        }
    }

    private static void owedWithoutALoan() {
        EDGES.about("Returns the days, 0 without a loan (also for the same one).");
        Supplier<BufferLoans> make = () -> {
            BufferLoans x = six();
            x.lend(5, 0, 7);
            x.lend(0, 4, 8);
            return x;
        };
        for (int borrower = 0; borrower < 6; borrower++) {
            for (int lender = 0; lender < 6; lender++) {
                int b = borrower;
                int l = lender;
                int due = b == 0 && l == 5 ? 7 : b == 4 && l == 0 ? 8 : 0;
                EDGES.looks("owed(" + b + ", " + l + ")", make, x -> x.owed(b, l), due);
            }
        }
    }

    // promise 19
    private static void lenderRefused() {
        EDGES.about("Throws `IndexOutOfBoundsException` if there is no such project");
        for (int project : new int[] {-1, 6, 7}) {
            EDGES.refused("lender(" + project + ", 0) of 6", Edges.PLACE, LookEdgesTest::six,
                x -> x.lender(project, 0));
        }
        for (int project : FAR) {
            EDGES.refused("lender(" + project + ", 0)", Edges.PLACE, made("5:9:1;5:9:1"), x -> x.lender(project, 0));
        }
        EDGES.about("Throws `IllegalArgumentException` if place is not 0 to 4");
        EDGES.looks("lender(0, 0)", LookEdgesTest::six, x -> x.lender(0, 0), 5);
        EDGES.looks("lender(0, 4)", LookEdgesTest::six, x -> x.lender(0, 4), 1);
        EDGES.refused("lender(0, -1)", Edges.VALUE, LookEdgesTest::six, x -> x.lender(0, -1));
        EDGES.refused("lender(0, 5)", Edges.VALUE, LookEdgesTest::six, x -> x.lender(0, 5));
        for (int place : FAR) {
            EDGES.refused("lender(0, " + place + ")", Edges.VALUE, LookEdgesTest::six, x -> x.lender(0, place));
        }
        Supplier<BufferLoans> closed = () -> {
            BufferLoans x = Checks.desk("5:9:1;5:9:1");
            x.done(0, 1);
            x.close(0);
            return x;
        };
        EDGES.refused("lender(0, 5) of a closed one", Edges.VALUE, closed, x -> x.lender(0, 5));
        EDGES.looks("lender(0, 0) of a closed one", closed, x -> x.lender(0, 0), BufferLoans.NONE);
        EDGES.about("If several exceptions apply, the one that is named first in the throws clause is thrown.");
        EDGES.refused("lender(6, 5) of 6", Edges.PLACE, LookEdgesTest::six, x -> x.lender(6, 5));
        EDGES.refused("lender(-1, -1)", Edges.PLACE, LookEdgesTest::six, x -> x.lender(-1, -1));
    }

    private static void lenders(BufferLoans x, int project, long... due) {
        long[] all = {-1, -1, -1, -1, -1};
        System.arraycopy(due, 0, all, 0, due.length);
        EDGES.row("lenders for " + project, Looks.lenders(x, project), all);
    }

    private static void notSoManyLenders() {
        EDGES.about("Returns the number of the lender; NONE if there are not so many, or the project is closed.");
        BufferLoans x = new BufferLoans();
        for (int projects = 1; projects <= 6; projects++) {
            x.open(5, 10);
            long[] due = new long[projects - 1];
            for (int i = 0; i < due.length; i++) {
                due[i] = 1 + i;
            }
            lenders(x, 0, due);
        }
        lenders(x, 3, 0, 1, 2, 4, 5);
        lenders(x, 5, 0, 1, 2, 3, 4);
        x.close(0);
        lenders(x, 0);
        lenders(x, 3, 1, 2, 4, 5);
        x.close(5);
        x.close(2);
        lenders(x, 3, 1, 4);
        x.close(1);
        x.close(4);
        lenders(x, 3);
        x.close(3);
        lenders(x, 3);
    }

    private static void lendersThatCanLendSome() {
        EDGES.about(LENDERS);
        for (int used = 5; used <= 8; used++) {
            // project 1 keeps 3 of its 10 days
            BufferLoans x = Checks.desk("5:5:1;9:10:1;1:20:1");
            x.done(1, 1 + used);
            if (used < 7) {
                lenders(x, 0, 1, 2);
            } else {
                lenders(x, 0, 2);
            }
        }
        BufferLoans none = Checks.desk("5:5:1;9:0:1;1:0:1");
        lenders(none, 0);
        lenders(none, 1, 0);
    }

    private static void lendersByRank() {
        EDGES.about(LENDERS);
        BufferLoans x = Checks.desk("5:50:1;1:50:1;9:9:1;8:50:1;9:50:1;1:9:1");
        lenders(x, 0, 2, 4, 3, 1, 5);
        lenders(x, 2, 4, 3, 0, 1, 5);
        x.rank(3, 9);
        lenders(x, 0, 2, 3, 4, 1, 5);
        x.rank(1, 9);
        lenders(x, 0, 1, 2, 3, 4, 5);
        x.rank(2, 1);
        lenders(x, 0, 1, 3, 4, 2, 5);
    }

    private static void lendersByDays() {
        EDGES.about(LENDERS);
        // can lend 10, 11, 10, 12 and 11 when all buffers but 0 are kept in half
        BufferLoans x = Checks.desk("5:5:1;1:20:1;2:22:1;3:20:1;4:24:1;5:22:1");
        x.set(1, 50);
        x.set(0, 1);
        lenders(x, 0, 4, 2, 5, 1, 3);
        lenders(x, 4, 2, 5, 1, 3, 0);
        x.lend(4, 0, 1);
        // project 4 lends 11 then, project 0 lends 4
        lenders(x, 0, 2, 4, 5, 1, 3);
        x.lend(4, 0, 1);
        lenders(x, 0, 2, 5, 1, 3, 4);
        x.lend(4, 0, 1);
        lenders(x, 0, 2, 5, 1, 3, 4);
        lenders(x, 2, 5, 1, 3, 4, 0);
        // project 1 has 40 left and can lend 20, project 2 has 30 left and can lend 25
        BufferLoans y = Checks.desk("5:20:1;9:40:1;1:10:1");
        y.set(1, 50);
        y.set(0, 1);
        y.lend(0, 2, 20);
        lenders(y, 0, 2, 1);
    }

    private static void lendersByLent() {
        EDGES.about(LENDERS);
        BufferLoans x = six();
        x.set(0, 2);
        lenders(x, 0, 1, 2, 3, 4, 5);
        x.lend(1, 0, 2);
        lenders(x, 0, 2, 3, 4, 5, 1);
        x.lend(2, 0, 1);
        x.lend(3, 0, 1);
        lenders(x, 0, 4, 5, 2, 3, 1);
        x.lend(2, 4, 1);
        lenders(x, 0, 4, 5, 3, 1, 2);
        x.lend(3, 1, 2);
        // 2, 2, 3, 0, 0
        lenders(x, 0, 4, 5, 1, 2, 3);
        x.payBack(0, 2, 1);
        lenders(x, 0, 4, 5, 2, 1, 3);
        x.payBack(4, 2, 1);
        lenders(x, 0, 2, 4, 5, 1, 3);
    }

    private static void lendersFollowTheRule() {
        EDGES.about(LENDERS);
        BufferLoans x = Checks.desk("5:5:1;9:10:1;1:30:1;5:20:1");
        x.lend(1, 0, 1);
        x.lend(3, 0, 2);
        lenders(x, 0, 1, 3, 2);
        x.set(0, 1);
        lenders(x, 0, 2, 3, 1);
        x.set(0, 2);
        lenders(x, 0, 2, 1, 3);
        x.set(0, 0);
        lenders(x, 0, 1, 3, 2);
    }

    // promise 20
    private static void countRefused() {
        EDGES.about("Throws `IllegalArgumentException` if what is not 0 to 9");
        EDGES.looks("count(0)", LookEdgesTest::six, x -> x.count(0), 6);
        EDGES.looks("count(8)", LookEdgesTest::six, x -> x.count(8), 0);
        EDGES.same("count(9)", six().count(9), 1);
        EDGES.refused("count(-1)", Edges.VALUE, LookEdgesTest::six, x -> x.count(-1));
        EDGES.refused("count(10)", Edges.VALUE, LookEdgesTest::six, x -> x.count(10));
        for (int what : FAR) {
            EDGES.refused("count(" + what + ")", Edges.VALUE, LookEdgesTest::six, x -> x.count(what));
        }
    }

    private static void counts(BufferLoans x, long... due) {
        for (int what = 0; what < due.length; what++) {
            EDGES.same("count(" + what + ")", x.count(what), due[what]);
        }
    }

    private static void counts() {
        EDGES.about("7: days of delay of all tasks that are done (only those above the plan)");
        BufferLoans x = Checks.desk("5:5:10+10+10;5:0:10");
        counts(x, 2, 2, 0, 0, 5, 0, 0, 0, 0, 1);
        x.done(0, 9);
        counts(x, 2, 2, 0, 0, 6, 0, 1, 0, 0, 2);
        x.done(0, 10);
        counts(x, 2, 2, 0, 0, 6, 0, 2, 0, 0, 3);
        x.done(0, 11);
        counts(x, 2, 2, 0, 0, 5, 0, 3, 1, 0, 4);
        // project 0 keeps 1
        x.done(1, 15);
        counts(x, 2, 2, 1, 4, 1, 1, 4, 6, 0, 5);
    }

    private static void countsOfFullChains() {
        EDGES.about("7: days of delay of all tasks that are done (only those above the plan)");
        BufferLoans x = Checks.desk("5:0:1+1+1+1+1+1+1+1;5:0:2+2+2+2+2+2+2+2;5:0:3+3+3+3+3+3+3+3");
        int delay = 0;
        for (int turn = 0; turn < 24; turn++) {
            int project = turn * 2 % 3;
            // in 4 to 27 days, of which 1 to 3 are planned
            x.done(project, 4 + turn);
            delay += 4 + turn - (1 + project);
            EDGES.same("days of delay behind " + turn, x.count(7), delay);
            EDGES.same("tasks that are done behind " + turn, x.count(6), turn + 1);
        }
        for (int project = 0; project < 3; project++) {
            EDGES.same("tasks done of " + project, x.project(project, 8), 8);
            for (int task = 0; task < 8; task++) {
                int days = 4 + 3 * task + (project * 2) % 3;
                EDGES.same("task(" + project + ", " + task + ", 1)", x.task(project, task, 1), days);
            }
        }
    }

    private static void countsOfClosedOnes() {
        EDGES.about("4: days left of all projects; 5: late days of all");
        BufferLoans x = Checks.desk("5:5:10;5:9:10");
        x.set(1, 100);
        x.lend(1, 0, 2);
        x.done(0, 18);
        counts(x, 2, 2, 1, 2, 7, 1, 1, 8, 0, 4);
        x.close(0);
        counts(x, 2, 1, 0, 0, 7, 1, 1, 8, 2, 5);
        x.done(1, 5);
        x.close(1);
        counts(x, 2, 0, 0, 0, 12, 1, 2, 8, 2, 6);
        x.undo();
        x.undo();
        x.undo();
        counts(x, 2, 2, 1, 2, 7, 1, 1, 8, 0, 3);
    }

    // promise 21
    private static void settingRefused() {
        EDGES.about("Throws `IndexOutOfBoundsException` if there is no such setting");
        EDGES.looks("setting(0)", BufferLoans::new, x -> x.setting(0), 0);
        EDGES.looks("setting(1)", BufferLoans::new, x -> x.setting(1), 30);
        EDGES.looks("setting(2)", BufferLoans::new, x -> x.setting(2), 50);
        EDGES.refused("setting(-1)", Edges.PLACE, BufferLoans::new, x -> x.setting(-1));
        EDGES.refused("setting(3)", Edges.PLACE, BufferLoans::new, x -> x.setting(3));
        for (int setting : FAR) {
            EDGES.refused("setting(" + setting + ")", Edges.PLACE, BufferLoans::new, x -> x.setting(setting));
        }
    }
}
