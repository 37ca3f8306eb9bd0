/** Promises 15 to 21: project, task, loan, owed, lender, count, setting. */
public final class LooksTest {
    private static final Class<IndexOutOfBoundsException> PLACE = IndexOutOfBoundsException.class;
    private static final Class<IllegalArgumentException> VALUE = IllegalArgumentException.class;
    private static final Checks CHECKS = new Checks();

    public static void main(String[] args) {
        project();
        task();
        loan();
        owed();
        lender();
        count();
        setting();
        CHECKS.end("LooksTest");
    }

    // Project 0 is late by 3 days, project 1 has lent days, project 2 is closed and has lost some.
    private static BufferLoans desk() {
        BufferLoans x = Checks.desk("3:10:5+7;6:20:9;8:6:4");
        x.set(2, 0);
        x.lend(2, 0, 2);
        x.lend(0, 1, 5);
        // 7 left, 5 called back, 14 of project 1 and 3 of project 2 borrowed, 3 late
        x.done(0, 37);
        x.done(2, 1);
        x.close(2);
        return x;
    }

    // promise 15
    private static void project() {
        BufferLoans x = desk();
        int[][] due = {
            {3, 10, 0, 29, 14, 0, 3, 2, 1, 1, 5, 0, 12, 37, 0},
            {6, 20, 6, 0, 0, 14, 0, 1, 0, 1, 0, 0, 9, 0, 0},
            {8, 6, 4, -3, 0, 0, 0, 1, 1, 0, 0, 5, 4, 1, 0},
        };
        long before = x.digest();
        for (int p = 0; p < 3; p++) {
            for (int what = 0; what <= 14; what++) {
                CHECKS.same("project(" + p + ", " + what + ")", x.project(p, what), due[p][what]);
            }
        }
        CHECKS.same("digest behind the looks", x.digest(), before);
        x.set(1, 0);
        CHECKS.same("project(1, 14) that keeps nothing", x.project(1, 14), 6);
        CHECKS.same("project(2, 14) when closed", x.project(2, 14), 0);
        x.set(1, 29);
        CHECKS.same("project(1, 14) rounded", x.project(1, 14), 1);
        x.set(1, 100);
        CHECKS.same("project(1, 14) at least 0", x.project(1, 14), 0);
        CHECKS.refused("project(3, 0)", PLACE, () -> x.project(3, 0));
        CHECKS.refused("project(3, 15)", PLACE, () -> x.project(3, 15));
        CHECKS.refused("project(-1, 0)", PLACE, () -> x.project(-1, 0));
        CHECKS.refused("project(0, 15)", VALUE, () -> x.project(0, 15));
        CHECKS.refused("project(0, -1)", VALUE, () -> x.project(0, -1));
    }

    // promise 16
    private static void task() {
        BufferLoans x = desk();
        int[][] due = {{5, 37, 7, 5, 17, 3}, {7, -1, 0, 0, 0, 0}};
        for (int t = 0; t < 2; t++) {
            for (int what = 0; what <= 5; what++) {
                CHECKS.same("task(0, " + t + ", " + what + ")", x.task(0, t, what), due[t][what]);
            }
        }
        CHECKS.same("task(2, 0, 1)", x.task(2, 0, 1), 1);
        CHECKS.refused("task(0, 2, 0)", PLACE, () -> x.task(0, 2, 0));
        CHECKS.refused("task(0, -1, 0)", PLACE, () -> x.task(0, -1, 0));
        CHECKS.refused("task(3, 0, 0)", PLACE, () -> x.task(3, 0, 0));
        CHECKS.refused("task(0, 2, 6)", PLACE, () -> x.task(0, 2, 6));
        CHECKS.refused("task(0, 0, 6)", VALUE, () -> x.task(0, 0, 6));
        CHECKS.refused("task(0, 0, -1)", VALUE, () -> x.task(0, 0, -1));
    }

    // promise 17
    private static void loan() {
        BufferLoans x = Checks.desk("5:50:1;5:50:1;5:50:1");
        x.lend(2, 1, 3);
        x.lend(0, 2, 4);
        x.lend(1, 0, 5);
        x.payBack(2, 0, 4);
        int[][] due = {{2, 1, 3}, {1, 0, 5}};
        for (int place = 0; place < 2; place++) {
            for (int what = 0; what < 3; what++) {
                CHECKS.same("loan(" + place + ", " + what + ")", x.loan(place, what), due[place][what]);
            }
        }
        CHECKS.refused("loan(2, 0)", PLACE, () -> x.loan(2, 0));
        CHECKS.refused("loan(2, 3)", PLACE, () -> x.loan(2, 3));
        CHECKS.refused("loan(-1, 0)", PLACE, () -> x.loan(-1, 0));
        CHECKS.refused("loan(0, 3)", VALUE, () -> x.loan(0, 3));
        CHECKS.refused("loan(0, -1)", VALUE, () -> x.loan(0, -1));
        // as many loans as there can be, and the first one gone
        BufferLoans y = Checks.desk("1:50:1;1:50:1;1:50:1;1:50:1;1:50:1;1:50:1");
        for (int lender = 0; lender < 6; lender++) {
            for (int borrower = 0; borrower < 6; borrower++) {
                if (lender != borrower) {
                    y.lend(lender, borrower, 1 + lender);
                }
            }
        }
        CHECKS.same("30 loans", y.count(2), 30);
        CHECKS.same("the last one", y.loan(29, 0) * 100 + y.loan(29, 1) * 10 + y.loan(29, 2), 546);
        y.payBack(1, 0, 1);
        CHECKS.same("29 loans", y.count(2), 29);
        CHECKS.same("the last one of 29", y.loan(28, 0) * 100 + y.loan(28, 1) * 10 + y.loan(28, 2), 546);
        CHECKS.refused("loan(29, 0)", PLACE, () -> y.loan(29, 0));
        y.lend(0, 1, 7);
        CHECKS.same("the new one is the last", y.loan(29, 0) * 100 + y.loan(29, 1) * 10 + y.loan(29, 2), 17);
    }

    // promise 18
    private static void owed() {
        BufferLoans x = Checks.desk("5:50:1;5:50:1");
        x.lend(0, 1, 6);
        CHECKS.same("owed(1, 0)", x.owed(1, 0), 6);
        CHECKS.same("owed(0, 1)", x.owed(0, 1), 0);
        CHECKS.same("owed(1, 1)", x.owed(1, 1), 0);
        CHECKS.refused("owed(2, 0)", PLACE, () -> x.owed(2, 0));
        CHECKS.refused("owed(0, 2)", PLACE, () -> x.owed(0, 2));
        CHECKS.refused("owed(-1, 0)", PLACE, () -> x.owed(-1, 0));
        CHECKS.refused("owed(0, -1)", PLACE, () -> x.owed(0, -1));
    }

    private static void lenders(BufferLoans x, int project, int... due) {
        for (int place = 0; place < 5; place++) {
            int number = place < due.length ? due[place] : -1;
            CHECKS.same("lender(" + project + ", " + place + ")", x.lender(project, place), number);
        }
    }

    // promise 19
    private static void lender() {
        // what they can lend: 14, 0, 7, 21, 7, 70
        BufferLoans x = Checks.desk("3:20:1;9:0:1;5:10:1;3:30:1;5:10:1;1:99:1");
        lenders(x, 1, 2, 4, 0, 3, 5);
        lenders(x, 2, 4, 0, 3, 5);
        x.set(0, 1);
        lenders(x, 1, 5, 3, 0, 2, 4);
        x.set(0, 2);
        lenders(x, 1, 0, 2, 3, 4, 5);
        x.lend(0, 1, 3);
        x.lend(2, 1, 1);
        x.lend(5, 1, 1);
        lenders(x, 3, 1, 4, 2, 5, 0);
        CHECKS.refused("lender(6, 0)", PLACE, () -> x.lender(6, 0));
        CHECKS.refused("lender(6, 5)", PLACE, () -> x.lender(6, 5));
        CHECKS.refused("lender(-1, 0)", PLACE, () -> x.lender(-1, 0));
        CHECKS.refused("lender(0, 5)", VALUE, () -> x.lender(0, 5));
        CHECKS.refused("lender(0, -1)", VALUE, () -> x.lender(0, -1));
        BufferLoans y = new BufferLoans();
        y.open(5, 50);
        y.open(5, 50);
        y.open(5, 50);
        lenders(y, 0, 1, 2);
        y.close(1);
        lenders(y, 0, 2);
        lenders(y, 1);
    }

    // promise 20
    private static void count() {
        BufferLoans x = desk();
        int[] due = {3, 2, 1, 14, 10, 3, 2, 32, 5, 6};
        for (int what = 0; what < 10; what++) {
            CHECKS.same("count(" + what + ")", x.count(what), due[what]);
        }
        CHECKS.refused("count(10)", VALUE, () -> x.count(10));
        CHECKS.refused("count(-1)", VALUE, () -> x.count(-1));
    }

    // promise 21
    private static void setting() {
        BufferLoans x = new BufferLoans();
        x.set(0, 2);
        x.set(1, 77);
        x.set(2, 99);
        CHECKS.same("setting(0)", x.setting(0), 2);
        CHECKS.same("setting(1)", x.setting(1), 77);
        CHECKS.same("setting(2)", x.setting(2), 99);
        CHECKS.refused("setting(3)", PLACE, () -> x.setting(3));
        CHECKS.refused("setting(-1)", PLACE, () -> x.setting(-1));
    }
}
