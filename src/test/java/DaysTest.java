/** Promises 6 to 9: done, lend, payBack, close. */
public final class DaysTest {
    private static final Class<IndexOutOfBoundsException> PLACE = IndexOutOfBoundsException.class;
    private static final Class<IllegalArgumentException> VALUE = IllegalArgumentException.class;
    private static final Class<IllegalStateException> STATE = IllegalStateException.class;
    private static final Checks CHECKS = new Checks();

    public static void main(String[] args) {
        doneWithDelay();
        doneByRules();
        doneInTime();
        doneWithSparedDays();
        repaidAhead();
        calledBackInPart();
        doneRefused();
        lend();
        payBack();
        close();
        daysLeftAddUp();
        CHECKS.end("DaysTest");
    }

    private static void row(String name, long[] got, long... due) {
        CHECKS.same(name + ": length", got.length, due.length);
        for (int i = 0; i < due.length && i < got.length; i++) {
            CHECKS.same(name + "[" + i + "]", got[i], due[i]);
        }
    }

    // left behind the two loans: 2, 26, 10, 30; what they can lend: 0, 20, 8, 21
    private static BufferLoans fourProjects() {
        BufferLoans x = Checks.desk("5:10:5+5;7:20:4;7:8:4;2:30:4");
        x.lend(0, 1, 6);
        x.lend(0, 2, 2);
        return x;
    }

    // promise 6: own days, then those called back, then those borrowed, then late ones
    private static void doneWithDelay() {
        BufferLoans x = fourProjects();
        CHECKS.undoable(x, "done(0, 45)", () -> x.done(0, 45), 0);
        row("task", Looks.task(x, 0, 0), 5, 45, 2, 8, 30, 0);
        row("loans", Looks.loans(x), 1, 0, 14, 2, 0, 6, 3, 0, 10);
        row("project 0", Looks.days(x, 0), 0, 40, 30, 0, 0, 0, 0);
        row("project 1", Looks.days(x, 1), 6, 0, 0, 14, 0, 0, 0);
        row("project 2", Looks.days(x, 2), 2, 0, 0, 6, 0, 0, 0);
        row("project 3", Looks.days(x, 3), 20, 0, 0, 10, 0, 0, 0);
        CHECKS.same("late days of done(0, 25)", x.done(0, 25), 9);
        row("second task", Looks.task(x, 0, 1), 5, 25, 0, 0, 11, 9);
        row("project 0 late", Looks.days(x, 0), 0, 51, 41, 0, 9, 0, 0);
        CHECKS.same("days taken", x.project(0, 13), 70);
        CHECKS.same("tasks done", x.project(0, 8), 2);
    }

    // promise 6: the order of the lenders by each rule, behind the days that are called back
    private static void doneByRules() {
        BufferLoans x = fourProjects();
        x.set(0, 1);
        x.done(0, 45);
        row("rule 1", Looks.loans(x), 3, 0, 21, 1, 0, 9);
        BufferLoans y = fourProjects();
        y.set(0, 2);
        y.lend(1, 3, 3);
        y.lend(2, 3, 1);
        // left 23, 9 and 34; behind the days called back 17, 7 and 34: 11, 5 and 25 can be lent
        y.done(0, 45);
        row("rule 2", Looks.loans(y), 1, 3, 3, 2, 3, 1, 3, 0, 25, 2, 0, 5);
        BufferLoans z = Checks.desk("5:0:5;5:20:4;5:20:4");
        z.set(0, 1);
        z.done(0, 10);
        row("of several the lowest number", Looks.loans(z), 1, 0, 5);
        // two lenders: the second one lends more than the first one, its loan stays behind it
        BufferLoans w = Checks.desk("5:0:5;3:10:4;9:10:4");
        w.set(1, 0);
        w.done(0, 18);
        row("rule 0", Looks.loans(w), 2, 0, 10, 1, 0, 3);
        // the order is frozen: what is lent on the way does not change it
        BufferLoans v = Checks.desk("5:0:5;3:30:4;3:20:4;3:10:4");
        v.set(0, 1);
        v.set(1, 0);
        v.done(0, 60);
        row("frozen order", Looks.loans(v), 1, 0, 30, 2, 0, 20, 3, 0, 5);
    }

    // promise 6: no delay and nothing spared
    private static void doneInTime() {
        BufferLoans x = Checks.desk("5:10:5+5");
        CHECKS.same("done(0, 5)", x.done(0, 5), 0);
        row("task in time", Looks.task(x, 0, 0), 5, 5, 0, 0, 0, 0);
        row("project in time", Looks.days(x, 0), 10, 0, 0, 0, 0, 0, 0);
        CHECKS.same("done(0, 300)", x.done(0, 300), 285);
        row("task with 300 days", Looks.task(x, 0, 1), 5, 300, 10, 0, 0, 285);
    }

    // promise 6: spared days come to the days left and are paid back, at most as many
    private static void doneWithSparedDays() {
        BufferLoans x = Checks.desk("5:10:20;5:10:5;5:10:5");
        x.lend(1, 0, 4);
        x.lend(2, 0, 5);
        CHECKS.undoable(x, "done(0, 14)", () -> x.done(0, 14), 0);
        row("loans behind 6 spared days", Looks.loans(x), 2, 0, 3);
        row("project 0", Looks.days(x, 0), 19, -6, 3, 0, 0, 0, 0);
        row("project 1", Looks.days(x, 1), 10, 0, 0, 0, 0, 0, 0);
        row("project 2", Looks.days(x, 2), 7, 0, 0, 3, 0, 0, 0);
        row("task", Looks.task(x, 0, 0), 20, 14, 0, 0, 0, 0);
        BufferLoans y = Checks.desk("5:1:20;5:10:5");
        y.lend(1, 0, 2);
        CHECKS.same("done(0, 0)", y.done(0, 0), 0);
        row("more spared than owed", Looks.days(y, 0), 21, -20, 0, 0, 0, 0, 0);
        row("loans", Looks.loans(y));
    }

    // promise 6: with another task a share of the days left is paid back ahead of it
    private static void repaidAhead() {
        BufferLoans x = Checks.desk("5:11:5+5+5;5:10:5;5:10:5");
        x.lend(1, 0, 4);
        x.lend(2, 0, 6);
        // 21 days left, half of them rounded down: 10
        x.done(0, 5);
        row("half", Looks.loans(x));
        BufferLoans y = Checks.desk("5:11:5+5+5;5:10:5;5:10:5");
        y.lend(1, 0, 4);
        y.lend(2, 0, 6);
        y.set(2, 33);
        // 21 * 33 / 100 = 6
        y.done(0, 5);
        row("a third", Looks.loans(y), 2, 0, 4);
        row("project 0", Looks.days(y, 0), 15, 0, 4, 0, 0, 0, 0);
        y.set(2, 0);
        y.done(0, 5);
        row("nothing", Looks.loans(y), 2, 0, 4);
        y.set(2, 100);
        y.done(0, 5);
        row("no further task", Looks.loans(y), 2, 0, 4);
        // behind a delay too: of 14 left 6 are used, and a quarter of 8 is paid back
        BufferLoans z = Checks.desk("5:10:5+5;5:10:5");
        z.lend(1, 0, 4);
        z.set(2, 25);
        z.done(0, 11);
        row("behind a delay", Looks.loans(z), 1, 0, 2);
        // spared days first, then a share of what is left: 2 + 12 * 10 / 100
        BufferLoans w = Checks.desk("5:6:5+5;5:10:5");
        w.lend(1, 0, 6);
        w.set(2, 10);
        w.done(0, 3);
        row("behind spared days", Looks.loans(w), 1, 0, 3);
    }

    // promise 6: a loan is only called back as far as the borrower has days left
    private static void calledBackInPart() {
        BufferLoans x = Checks.desk("5:10:5;5:0:5+5;5:0:5");
        x.lend(0, 1, 5);
        x.lend(0, 2, 5);
        x.set(2, 0);
        x.done(1, 8);
        CHECKS.same("done(0, 11)", x.done(0, 11), 0);
        row("task", Looks.task(x, 0, 0), 5, 11, 0, 6, 0, 0);
        row("loans", Looks.loans(x), 0, 1, 3, 0, 2, 1);
        CHECKS.same("left of 1", x.project(1, 2), 0);
        CHECKS.same("left of 2", x.project(2, 2), 1);
    }

    // promise 6: exceptions, the first one named first
    private static void doneRefused() {
        BufferLoans x = new BufferLoans();
        CHECKS.refused(x, "done without a project", PLACE, () -> x.done(0, 301));
        x.open(5, 5);
        CHECKS.refused(x, "done(0, -1)", VALUE, () -> x.done(0, -1));
        CHECKS.refused(x, "done(0, 301)", VALUE, () -> x.done(0, 301));
        CHECKS.refused(x, "done without a task", STATE, () -> x.done(0, 0));
        x.plan(0, 5);
        x.done(0, 5);
        CHECKS.refused(x, "done without a further task", STATE, () -> x.done(0, 5));
        x.close(0);
        CHECKS.refused(x, "done when closed", STATE, () -> x.done(0, 5));
        CHECKS.refused(x, "done(-1, 5)", PLACE, () -> x.done(-1, 5));
    }

    // promise 7
    private static void lend() {
        BufferLoans x = Checks.desk("5:99:5;5:10:5;5:0:5");
        CHECKS.undoable(x, "lend(0, 1, 1)", () -> x.lend(0, 1, 1), 1);
        CHECKS.undoable(x, "lend(1, 2, 11)", () -> x.lend(1, 2, 11), 11);
        CHECKS.undoable(x, "lend(0, 1, 2)", () -> x.lend(0, 1, 2), 3);
        CHECKS.undoable(x, "lend(2, 1, 4)", () -> x.lend(2, 1, 4), 4);
        row("the same one comes to the same loan", Looks.loans(x), 0, 1, 3, 1, 2, 11, 2, 1, 4);
        row("lender", Looks.days(x, 0), 96, 0, 0, 3, 0, 0, 0);
        row("both", Looks.days(x, 1), 6, 0, 7, 11, 0, 0, 0);
        CHECKS.refused(x, "lend to itself", VALUE, () -> x.lend(0, 0, 1));
        CHECKS.refused(x, "lend(0, 1, 0)", VALUE, () -> x.lend(0, 1, 0));
        CHECKS.refused(x, "lend(0, 1, 100)", VALUE, () -> x.lend(0, 1, 100));
        CHECKS.refused(x, "lend(0, 3, 0)", PLACE, () -> x.lend(0, 3, 0));
        CHECKS.refused(x, "lend(3, 3, 0)", PLACE, () -> x.lend(3, 3, 0));
        CHECKS.refused(x, "lend(-1, 0, 1)", PLACE, () -> x.lend(-1, 0, 1));
        CHECKS.refused(x, "lend with fewer left", STATE, () -> x.lend(1, 0, 7));
        x.undo();
        x.undo();
        x.undo();
        x.undo();
        CHECKS.same("lend(0, 1, 99)", x.lend(0, 1, 99), 99);
        x.open(5, 5);
        x.close(3);
        CHECKS.refused(x, "lend by a closed one", STATE, () -> x.lend(3, 1, 1));
        CHECKS.refused(x, "lend to a closed one", STATE, () -> x.lend(1, 3, 1));
        CHECKS.refused(x, "lend to a closed one of 0 days", VALUE, () -> x.lend(1, 3, 0));
    }

    // promise 8
    private static void payBack() {
        BufferLoans x = Checks.desk("5:50:5;5:10:5+5;5:20:5");
        x.lend(0, 1, 20);
        x.lend(2, 1, 5);
        CHECKS.undoable(x, "payBack(1, 0, 8)", () -> x.payBack(1, 0, 8), 12);
        row("loans", Looks.loans(x), 0, 1, 12, 2, 1, 5);
        row("lender", Looks.days(x, 0), 38, 0, 0, 12, 0, 0, 0);
        row("borrower", Looks.days(x, 1), 27, 0, 17, 0, 0, 0, 0);
        CHECKS.refused(x, "more than owed", STATE, () -> x.payBack(1, 0, 13));
        CHECKS.undoable(x, "payBack(1, 0, 12)", () -> x.payBack(1, 0, 12), 0);
        row("a loan of 0 days is gone", Looks.loans(x), 2, 1, 5);
        CHECKS.refused(x, "without a loan", STATE, () -> x.payBack(1, 0, 1));
        CHECKS.refused(x, "the other way round", STATE, () -> x.payBack(2, 1, 1));
        CHECKS.refused(x, "to itself", VALUE, () -> x.payBack(1, 1, 1));
        CHECKS.refused(x, "payBack(1, 2, 0)", VALUE, () -> x.payBack(1, 2, 0));
        CHECKS.refused(x, "payBack(1, 2, 10000)", VALUE, () -> x.payBack(1, 2, 10000));
        CHECKS.refused(x, "payBack(1, 2, 9999)", STATE, () -> x.payBack(1, 2, 9999));
        CHECKS.refused(x, "payBack(1, 3, 0)", PLACE, () -> x.payBack(1, 3, 0));
        CHECKS.refused(x, "payBack(3, 1, 1)", PLACE, () -> x.payBack(3, 1, 1));
        CHECKS.refused(x, "payBack(-1, -1, 0)", PLACE, () -> x.payBack(-1, -1, 0));
        x.set(2, 0);
        x.done(1, 5 + 13);
        CHECKS.same("left", x.project(1, 2), 2);
        CHECKS.refused(x, "more than left", STATE, () -> x.payBack(1, 2, 3));
        CHECKS.same("payBack(1, 2, 2)", x.payBack(1, 2, 2), 3);
        // more days can be owed and paid back at once than can be lent at once
        BufferLoans y = Checks.desk("5:99:60;5:99:60");
        y.done(0, 0);
        y.lend(0, 1, 99);
        y.lend(0, 1, 60);
        CHECKS.same("payBack(1, 0, 158)", y.payBack(1, 0, 158), 1);
    }

    // promise 9
    private static void close() {
        BufferLoans x = Checks.desk("5:20:5;5:10:5;5:30:5;5:9:4");
        x.lend(2, 0, 9);
        x.lend(0, 1, 7);
        x.lend(1, 0, 8);
        x.lend(2, 3, 2);
        x.lend(0, 3, 3);
        CHECKS.refused(x, "close with a task that is not done", STATE, () -> x.close(0));
        // 27 left, of them 15 used
        x.done(0, 20);
        row("ahead of it", Looks.days(x, 0), 12, 15, 17, 10, 0, 0, 0);
        // pays back 9 and 3; 5 owed to project 1 are written off, with 7 and 3 that others owe it
        CHECKS.same("close(0)", x.close(0), 15);
        row("loans", Looks.loans(x), 2, 3, 2);
        row("closed", Looks.days(x, 0), 0, 15, 0, 0, 0, 5, 10);
        row("lost and won", Looks.days(x, 1), 12, 0, 0, 0, 0, 7, 5);
        row("paid back", Looks.days(x, 2), 28, 0, 0, 2, 0, 0, 0);
        row("won", Looks.days(x, 3), 14, 0, 2, 0, 0, 3, 0);
        CHECKS.same("open", x.project(0, 9), 0);
        CHECKS.same("written off", x.count(8), 15);
        CHECKS.refused(x, "close again", STATE, () -> x.close(0));
        CHECKS.refused(x, "close(4)", PLACE, () -> x.close(4));
        CHECKS.refused(x, "close(-1)", PLACE, () -> x.close(-1));
        BufferLoans y = new BufferLoans();
        y.open(1, 7);
        CHECKS.same("close without a task", y.close(0), 0);
        CHECKS.same("its days left stay", y.project(0, 2), 7);
    }

    // the sum that the document tells for the days left of each project
    private static void daysLeftAddUp() {
        BufferLoans x = fourProjects();
        x.done(0, 45);
        x.done(0, 9);
        x.done(1, 2);
        x.close(0);
        x.done(3, 4);
        x.close(3);
        for (int p = 0; p < 4; p++) {
            long[] d = Looks.days(x, p);
            CHECKS.same("days left of " + p, d[0], x.project(p, 1) - d[1] + d[2] - d[3] + d[5] - d[6]);
        }
    }
}
