import java.util.function.Supplier;

/** The boundary cases of promises 7 to 9, of 'Loans' and of 'Closing'. */
public final class LoanEdgesTest {
    private static final String BACK_AT_CLOSE = "It pays back as many days as it can, loan by loan in their order.";
    private static final String WRITTEN_OFF = "Then all loans that it still owes, and all that others owe it, are "
        + "written off, in their order: the lender has lost these days, the borrower has won them, and the loan is gone.";
    private static final Edges EDGES = new Edges();

    public static void main(String[] args) {
        daysOfLend();
        lenderWithFewer();
        lendWithoutProject();
        lendToItself();
        lendWhenClosed();
        firstNamedOfLend();
        oneLoanForEachPair();
        loanOfNoDays();
        daysOfPayBack();
        fewerOwed();
        borrowerWithFewer();
        moreOwedThanCanBePaid();
        payBackWithoutProject();
        payBackToItself();
        payBackWhenClosed();
        firstNamedOfPayBack();
        closeRefused();
        closeWithoutLoans();
        paidAtClose();
        paidAmongOthers();
        writtenOffAtClose();
        othersStay();
        closedForGood();
        sumOfDaysLeft();
        EDGES.end("LoanEdgesTest");
    }

    private static Supplier<BufferLoans> made(String plans) {
        return () -> Checks.desk(plans);
    }

    private static void daysOfLend() {
        EDGES.about("`days`: 1 to 99");
        for (int days : new int[] {1, 2, 98, 99}) {
            EDGES.undoable("lend(0, 1, " + days + ")", made("5:99:1;5:0:1"), x -> x.lend(0, 1, days), days);
            BufferLoans x = Checks.desk("5:99:1;5:0:1");
            x.lend(0, 1, days);
            EDGES.row("loans", Looks.loans(x), 0, 1, days);
            EDGES.row("lender", Looks.days(x, 0), 99 - days, 0, 0, days, 0, 0, 0);
            EDGES.row("borrower", Looks.days(x, 1), days, 0, days, 0, 0, 0, 0);
        }
        Supplier<BufferLoans> rich = () -> {
            BufferLoans x = Checks.desk("5:99:60;5:0:1");
            x.done(0, 0);
            return x;
        };
        for (int days : new int[] {0, -1, 100, 101, 159, Integer.MIN_VALUE, Integer.MAX_VALUE}) {
            EDGES.refused("lend(0, 1, " + days + ") of 159", Edges.VALUE, rich, x -> x.lend(0, 1, days));
        }
        EDGES.undoable("lend(0, 1, 99) of 159", rich, x -> x.lend(0, 1, 99), 99);
    }

    private static void lenderWithFewer() {
        EDGES.about("Throws `IllegalStateException` if one of both is closed, or the lender has fewer days left");
        EDGES.undoable("lend one less than all", made("5:10:1;5:0:1"), x -> x.lend(0, 1, 9), 9);
        EDGES.undoable("lend all", made("5:10:1;5:0:1"), x -> x.lend(0, 1, 10), 10);
        EDGES.refused("lend one more", Edges.STATE, made("5:10:1;5:0:1"), x -> x.lend(0, 1, 11));
        EDGES.refused("lend of nothing", Edges.STATE, made("5:10:1;5:0:1"), x -> x.lend(1, 0, 1));
        // by hand it can lend what it would keep by setting 1
        EDGES.undoable("lend what is kept", () -> {
            BufferLoans x = Checks.desk("5:10:1;5:0:1");
            x.set(1, 100);
            return x;
        }, x -> x.lend(0, 1, 10), 10);
        Supplier<BufferLoans> used = () -> {
            BufferLoans x = Checks.desk("5:10:1;5:0:1");
            x.done(0, 5);
            return x;
        };
        EDGES.undoable("lend all of 6", used, x -> x.lend(0, 1, 6), 6);
        EDGES.refused("lend 7 of 6", Edges.STATE, used, x -> x.lend(0, 1, 7));
    }

    private static void lendWithoutProject() {
        EDGES.about("Throws `IndexOutOfBoundsException` if there is no such project");
        for (int project : new int[] {2, 3, 6, -1, Integer.MIN_VALUE, Integer.MAX_VALUE}) {
            EDGES.refused("lend(" + project + ", 0, 1) of 2", Edges.PLACE, made("5:9:1;5:9:1"),
                x -> x.lend(project, 0, 1));
            EDGES.refused("lend(0, " + project + ", 1) of 2", Edges.PLACE, made("5:9:1;5:9:1"),
                x -> x.lend(0, project, 1));
        }
        EDGES.undoable("lend by the last one", made("5:9:1;5:9:1"), x -> x.lend(1, 0, 1), 1);
    }

    private static void lendToItself() {
        EDGES.about("Throws `IllegalArgumentException` if both are the same, or days is out of range");
        EDGES.refused("lend(0, 0, 1)", Edges.VALUE, made("5:9:1;5:9:1"), x -> x.lend(0, 0, 1));
        EDGES.refused("lend(1, 1, 9)", Edges.VALUE, made("5:9:1;5:9:1"), x -> x.lend(1, 1, 9));
    }

    // projects 2 and 3 are closed
    private static BufferLoans withClosed() {
        BufferLoans x = Checks.desk("5:9:1;5:9:1;5:9:1;5:9:1");
        x.done(2, 1);
        x.done(3, 1);
        x.close(2);
        x.close(3);
        return x;
    }

    private static void lendWhenClosed() {
        EDGES.about("Throws `IllegalStateException` if one of both is closed, or the lender has fewer days left");
        EDGES.refused("a closed lender", Edges.STATE, LoanEdgesTest::withClosed, x -> x.lend(2, 0, 1));
        EDGES.refused("a closed borrower", Edges.STATE, LoanEdgesTest::withClosed, x -> x.lend(0, 2, 1));
        EDGES.refused("both closed", Edges.STATE, LoanEdgesTest::withClosed, x -> x.lend(2, 3, 1));
        EDGES.undoable("two open ones beside", LoanEdgesTest::withClosed, x -> x.lend(0, 1, 1), 1);
    }

    private static void firstNamedOfLend() {
        EDGES.about("If several exceptions apply, the one that is named first in the throws clause is thrown.");
        Supplier<BufferLoans> make = LoanEdgesTest::withClosed;
        EDGES.refused("no lender, wrong days", Edges.PLACE, make, x -> x.lend(4, 0, 0));
        EDGES.refused("no borrower, wrong days", Edges.PLACE, make, x -> x.lend(0, 4, 100));
        EDGES.refused("no such project, both the same", Edges.PLACE, make, x -> x.lend(4, 4, 1));
        EDGES.refused("no such project below 0, both the same", Edges.PLACE, make, x -> x.lend(-1, -1, 0));
        EDGES.refused("no borrower, closed lender", Edges.PLACE, make, x -> x.lend(2, 4, 1));
        EDGES.refused("no lender, closed borrower", Edges.PLACE, make, x -> x.lend(-1, 2, 1));
        EDGES.refused("wrong days, closed lender", Edges.VALUE, make, x -> x.lend(2, 0, 0));
        EDGES.refused("wrong days, closed borrower", Edges.VALUE, make, x -> x.lend(0, 2, 100));
        EDGES.refused("both the same and closed", Edges.VALUE, make, x -> x.lend(2, 2, 1));
        EDGES.refused("both the same, with fewer days left", Edges.VALUE, make, x -> x.lend(0, 0, 10));
        EDGES.refused("wrong days, with fewer left", Edges.VALUE, make, x -> x.lend(0, 1, 100));
    }

    private static void oneLoanForEachPair() {
        EDGES.about("that is a loan, at most one for each pair of a lender and a borrower; days that are lent to the "
            + "same one once more come to the same loan. Loans are in the order in which they came");
        BufferLoans x = Checks.desk("5:50:1;5:50:1;5:50:1");
        x.lend(2, 1, 1);
        x.lend(0, 1, 2);
        x.lend(1, 0, 3);
        x.lend(1, 2, 4);
        EDGES.row("loans", Looks.loans(x), 2, 1, 1, 0, 1, 2, 1, 0, 3, 1, 2, 4);
        EDGES.same("days that are owed by this loan then", x.lend(1, 0, 10), 13);
        EDGES.same("days that are owed by this loan then", x.lend(2, 1, 10), 11);
        EDGES.row("loans", Looks.loans(x), 2, 1, 11, 0, 1, 2, 1, 0, 13, 1, 2, 4);
        // all pairs: 6 lenders of 5 each
        BufferLoans y = Checks.desk("1:99:1;1:99:1;1:99:1;1:99:1;1:99:1;1:99:1");
        for (int pair = 0; pair < 36; pair++) {
            int lender = pair / 6;
            int borrower = pair % 6;
            if (lender != borrower) {
                EDGES.same("lend(" + lender + ", " + borrower + ", 2)", y.lend(lender, borrower, 2), 2);
            }
        }
        EDGES.same("loans", y.count(2), 30);
        EDGES.same("the last pair again", y.lend(5, 4, 1), 3);
        EDGES.same("the first pair again", y.lend(0, 1, 1), 3);
        EDGES.same("loans", y.count(2), 30);
        for (int p = 0; p < 6; p++) {
            EDGES.same("left of " + p, y.project(p, 2), p == 0 || p == 5 ? 98 : p == 1 || p == 4 ? 100 : 99);
        }
        EDGES.same("the first loan is paid back", y.payBack(1, 0, 3), 0);
        EDGES.same("loans", y.count(2), 29);
        EDGES.same("and comes again, as the last one", y.lend(0, 1, 4), 4);
        EDGES.same("loans", y.count(2), 30);
        EDGES.same("the first one", y.loan(0, 0) * 100 + y.loan(0, 1) * 10 + y.loan(0, 2), 22);
        EDGES.same("the last but one", y.loan(28, 0) * 100 + y.loan(28, 1) * 10 + y.loan(28, 2), 543);
        EDGES.same("the last one", y.loan(29, 0) * 100 + y.loan(29, 1) * 10 + y.loan(29, 2), 14);
    }

    private static void loanOfNoDays() {
        EDGES.about("a loan of 0 days is gone");
        // the first, one between and the last of three
        long[][] due = {{1, 2, 4, 2, 0, 5}, {0, 1, 3, 2, 0, 5}, {0, 1, 3, 1, 2, 4}};
        Supplier<BufferLoans> three = () -> {
            BufferLoans x = Checks.desk("5:50:1;5:50:1;5:50:1");
            x.lend(0, 1, 3);
            x.lend(1, 2, 4);
            x.lend(2, 0, 5);
            return x;
        };
        for (int gone = 0; gone < 3; gone++) {
            int lender = gone;
            int borrower = (gone + 1) % 3;
            int days = 3 + gone;
            EDGES.undoable("pay all back", three, x -> x.payBack(borrower, lender, days), 0);
            BufferLoans x = three.get();
            x.payBack(borrower, lender, days);
            EDGES.row("loans", Looks.loans(x), due[gone]);
            EDGES.same("owed", x.owed(borrower, lender), 0);
            EDGES.refused("a place behind the last loan", Edges.PLACE, () -> {
                BufferLoans y = three.get();
                y.payBack(borrower, lender, days);
                return y;
            }, y -> y.loan(2, 0));
        }
        BufferLoans y = Checks.desk("5:50:1;5:50:1");
        y.lend(0, 1, 1);
        EDGES.same("owed behind the last day", y.payBack(1, 0, 1), 0);
        EDGES.same("loans", y.count(2), 0);
        EDGES.same("lent once more", y.lend(0, 1, 2), 2);
        EDGES.row("loans", Looks.loans(y), 0, 1, 2);
    }

    // project 1 owes project 0 159 days and has 258 left
    private static BufferLoans withMuchOwed() {
        BufferLoans x = Checks.desk("5:99:60;5:99:60");
        x.done(0, 0);
        x.lend(0, 1, 99);
        x.lend(0, 1, 60);
        return x;
    }

    private static void daysOfPayBack() {
        EDGES.about("`days`: 1 to 9999");
        for (int days : new int[] {1, 2, 99, 100, 158, 159}) {
            EDGES.undoable("payBack(1, 0, " + days + ") of 159", LoanEdgesTest::withMuchOwed,
                x -> x.payBack(1, 0, days), 159 - days);
            BufferLoans x = withMuchOwed();
            x.payBack(1, 0, days);
            EDGES.row("lender", Looks.days(x, 0), days, -60, 0, 159 - days, 0, 0, 0);
            EDGES.row("borrower", Looks.days(x, 1), 258 - days, 0, 159 - days, 0, 0, 0, 0);
        }
        for (int days : new int[] {0, -1, 10000, 10001, Integer.MIN_VALUE, Integer.MAX_VALUE}) {
            EDGES.refused("payBack(1, 0, " + days + ")", Edges.VALUE, LoanEdgesTest::withMuchOwed,
                x -> x.payBack(1, 0, days));
        }
        EDGES.refused("payBack(1, 0, 9999)", Edges.STATE, LoanEdgesTest::withMuchOwed, x -> x.payBack(1, 0, 9999));
    }

    private static void fewerOwed() {
        EDGES.about("Throws `IllegalStateException` if fewer days are owed, or the borrower has fewer days left");
        EDGES.refused("one more than owed", Edges.STATE, LoanEdgesTest::withMuchOwed, x -> x.payBack(1, 0, 160));
        EDGES.refused("the other way round", Edges.STATE, LoanEdgesTest::withMuchOwed, x -> x.payBack(0, 1, 1));
        EDGES.refused("without a loan", Edges.STATE, made("5:9:1;5:9:1"), x -> x.payBack(1, 0, 1));
        EDGES.refused("owed to another one", Edges.STATE, () -> {
            BufferLoans x = Checks.desk("5:9:1;5:9:1;5:9:1");
            x.lend(0, 1, 5);
            return x;
        }, x -> x.payBack(1, 2, 1));
    }

    // project 1 owes 9 days and has so many left
    private static Supplier<BufferLoans> withLeft(int left) {
        return () -> {
            BufferLoans x = Checks.desk("5:9:1;5:0:1");
            x.lend(0, 1, 9);
            x.done(1, 1 + 9 - left);
            return x;
        };
    }

    private static void borrowerWithFewer() {
        EDGES.about("Throws `IllegalStateException` if fewer days are owed, or the borrower has fewer days left");
        EDGES.undoable("payBack of all that is left", withLeft(4), x -> x.payBack(1, 0, 4), 5);
        EDGES.refused("payBack of one more than left", Edges.STATE, withLeft(4), x -> x.payBack(1, 0, 5));
        EDGES.refused("payBack of all that is owed", Edges.STATE, withLeft(4), x -> x.payBack(1, 0, 9));
        EDGES.refused("payBack with nothing left", Edges.STATE, withLeft(0), x -> x.payBack(1, 0, 1));
        EDGES.undoable("payBack of all with as many left", withLeft(9), x -> x.payBack(1, 0, 9), 0);
    }

    // both owe each other 99 * 102 days, and have 99 left
    private static BufferLoans withMostOwed() {
        BufferLoans x = Checks.desk("5:99:1;5:99:1");
        for (int turn = 0; turn < 102; turn++) {
            x.lend(0, 1, 99);
            x.lend(1, 0, 99);
        }
        return x;
    }

    private static void moreOwedThanCanBePaid() {
        EDGES.about("`days`: 1 to 9999");
        EDGES.same("owed", withMostOwed().owed(1, 0), 10098);
        EDGES.refused("9999 of 10098 with 99 left", Edges.STATE, LoanEdgesTest::withMostOwed,
            x -> x.payBack(1, 0, 9999));
        EDGES.refused("10000 of 10098", Edges.VALUE, LoanEdgesTest::withMostOwed, x -> x.payBack(1, 0, 10000));
        EDGES.undoable("99 of 10098", LoanEdgesTest::withMostOwed, x -> x.payBack(1, 0, 99), 9999);
        EDGES.refused("100 of 10098 with 99 left", Edges.STATE, LoanEdgesTest::withMostOwed, x -> x.payBack(1, 0, 100));
    }

    private static void payBackWithoutProject() {
        EDGES.about("Throws `IndexOutOfBoundsException` if there is no such project");
        for (int project : new int[] {2, 3, 6, -1, Integer.MIN_VALUE, Integer.MAX_VALUE}) {
            EDGES.refused("payBack(" + project + ", 0, 1) of 2", Edges.PLACE, LoanEdgesTest::withMuchOwed,
                x -> x.payBack(project, 0, 1));
            EDGES.refused("payBack(1, " + project + ", 1) of 2", Edges.PLACE, LoanEdgesTest::withMuchOwed,
                x -> x.payBack(1, project, 1));
        }
    }

    private static void payBackToItself() {
        EDGES.about("Throws `IllegalArgumentException` if both are the same, or days is out of range");
        EDGES.refused("payBack(0, 0, 1)", Edges.VALUE, LoanEdgesTest::withMuchOwed, x -> x.payBack(0, 0, 1));
        EDGES.refused("payBack(1, 1, 1)", Edges.VALUE, LoanEdgesTest::withMuchOwed, x -> x.payBack(1, 1, 1));
    }

    private static void payBackWhenClosed() {
        EDGES.about("Throws `IllegalStateException` if fewer days are owed, or the borrower has fewer days left");
        Supplier<BufferLoans> closed = () -> {
            BufferLoans x = Checks.desk("5:9:1;5:0:1");
            x.lend(0, 1, 9);
            x.done(1, 6);
            x.close(1);
            return x;
        };
        EDGES.refused("what was written off", Edges.STATE, closed, x -> x.payBack(1, 0, 1));
    }

    private static void firstNamedOfPayBack() {
        EDGES.about("If several exceptions apply, the one that is named first in the throws clause is thrown.");
        Supplier<BufferLoans> make = LoanEdgesTest::withMuchOwed;
        EDGES.refused("no borrower, wrong days", Edges.PLACE, make, x -> x.payBack(2, 0, 0));
        EDGES.refused("no lender, wrong days", Edges.PLACE, make, x -> x.payBack(1, 2, 10000));
        EDGES.refused("no such project, both the same", Edges.PLACE, make, x -> x.payBack(2, 2, 1));
        EDGES.refused("no such project below 0, both the same", Edges.PLACE, make, x -> x.payBack(-1, -1, 0));
        EDGES.refused("wrong days, fewer owed", Edges.VALUE, make, x -> x.payBack(0, 1, 10000));
        EDGES.refused("days below 1, nothing owed", Edges.VALUE, make, x -> x.payBack(0, 1, 0));
        EDGES.refused("both the same, nothing owed", Edges.VALUE, make, x -> x.payBack(0, 0, 9999));
    }

    private static void closeRefused() {
        EDGES.about("Throws `IndexOutOfBoundsException` if there is no such project");
        for (int project : new int[] {4, 5, 6, -1, Integer.MIN_VALUE, Integer.MAX_VALUE}) {
            EDGES.refused("close(" + project + ") of 4", Edges.PLACE, LoanEdgesTest::withClosed, x -> x.close(project));
        }
        EDGES.about("Throws `IllegalStateException` if it is closed, or has a task that is not done");
        EDGES.refused("a closed one", Edges.STATE, LoanEdgesTest::withClosed, x -> x.close(2));
        EDGES.refused("a task that is not done", Edges.STATE, LoanEdgesTest::withClosed, x -> x.close(0));
        Supplier<BufferLoans> one = () -> {
            BufferLoans x = Checks.desk("5:9:1+1+1+1+1+1+1+1");
            for (int task = 0; task < 7; task++) {
                x.done(0, 1);
            }
            return x;
        };
        EDGES.refused("one of 8 is not done", Edges.STATE, one, x -> x.close(0));
        Supplier<BufferLoans> all = () -> {
            BufferLoans x = one.get();
            x.done(0, 1);
            return x;
        };
        EDGES.undoable("all 8 are done", all, x -> x.close(0), 0);
        EDGES.refused("one is planned behind all", Edges.STATE, () -> {
            BufferLoans x = Checks.desk("5:9:1");
            x.done(0, 1);
            x.plan(0, 1);
            return x;
        }, x -> x.close(0));
    }

    private static void closeWithoutLoans() {
        EDGES.about("A project without a task that is not done can be closed.");
        Supplier<BufferLoans> bare = () -> {
            BufferLoans x = new BufferLoans();
            x.open(5, 7);
            return x;
        };
        EDGES.undoable("without a task", bare, x -> x.close(0), 0);
        BufferLoans x = bare.get();
        x.close(0);
        EDGES.about("(Its days left stay as they are.)");
        EDGES.row("days", Looks.days(x, 0), 7, 0, 0, 0, 0, 0, 0);
        EDGES.about("A project is open until it is closed.");
        EDGES.same("open", x.project(0, 9), 0);
        x.undo();
        EDGES.same("open behind undo", x.project(0, 9), 1);
    }

    // project 0 owes 3 days to project 1 and 4 to project 2, has so many left and no task
    private static BufferLoans owing(int left) {
        BufferLoans x = Checks.desk("5:5:1;5:9:1;5:9:1");
        x.lend(1, 0, 3);
        x.lend(2, 0, 4);
        x.done(0, 1 + 12 - left);
        return x;
    }

    private static void paidAtClose() {
        for (int left = 0; left <= 9; left++) {
            int it = left;
            int paid = Math.min(left, 7);
            EDGES.about(BACK_AT_CLOSE);
            EDGES.undoable("close with " + left + " left", () -> owing(it), x -> x.close(0), 7 - paid);
            BufferLoans x = owing(left);
            x.close(0);
            EDGES.row("days", Looks.days(x, 0), left - paid, 12 - left, 0, 0, 0, 7 - paid, 0);
            int first = Math.min(paid, 3);
            EDGES.row("first lender", Looks.days(x, 1), 6 + first, 0, 0, 0, 0, 0, 3 - first);
            int second = paid - first;
            EDGES.row("second lender", Looks.days(x, 2), 5 + second, 0, 0, 0, 0, 0, 4 - second);
            EDGES.about(WRITTEN_OFF);
            EDGES.same("loans", x.count(2), 0);
            EDGES.same("days written off", x.count(8), 7 - paid);
        }
    }

    private static void paidAmongOthers() {
        EDGES.about(BACK_AT_CLOSE);
        for (int left = 0; left <= 6; left++) {
            // project 0 owes 2 and 3 and is owed 1; other loans stand ahead, between and behind
            BufferLoans x = Checks.desk("5:6:1;5:20:1;5:20:1;5:20:1");
            x.lend(3, 2, 1);
            x.lend(1, 0, 2);
            x.lend(0, 3, 1);
            x.lend(2, 0, 3);
            x.lend(3, 1, 2);
            x.done(0, 1 + 10 - left);
            int paid = Math.min(left, 5);
            EDGES.same("close with " + left + " left", x.close(0), 5 - paid + 1);
            EDGES.row("loans", Looks.loans(x), 3, 2, 1, 3, 1, 2);
            EDGES.row("days", Looks.days(x, 0), left - paid, 10 - left, 0, 0, 0, 5 - paid, 1);
            EDGES.row("first lender", Looks.days(x, 1), 20 + Math.min(paid, 2), 0, 2, 0, 0, 0, Math.max(0, 2 - paid));
            int second = Math.max(0, paid - 2);
            EDGES.row("second lender", Looks.days(x, 2), 18 + second, 0, 1, 0, 0, 0, 3 - second);
            EDGES.row("its borrower", Looks.days(x, 3), 18, 0, 0, 3, 0, 1, 0);
        }
    }

    private static void writtenOffAtClose() {
        EDGES.about(WRITTEN_OFF);
        BufferLoans x = Checks.desk("5:9:1;5:9:1;5:9:1");
        x.lend(0, 1, 4);
        x.lend(2, 1, 1);
        x.lend(0, 2, 5);
        x.done(0, 1);
        // it owes nothing and has nothing left; 4 and 5 that others owe it are written off
        EDGES.same("close", x.close(0), 9);
        EDGES.row("loans", Looks.loans(x), 2, 1, 1);
        EDGES.row("the lender has lost", Looks.days(x, 0), 0, 0, 0, 0, 0, 0, 9);
        EDGES.row("the first borrower has won", Looks.days(x, 1), 14, 0, 1, 0, 0, 4, 0);
        EDGES.row("the second borrower has won", Looks.days(x, 2), 13, 0, 0, 1, 0, 5, 0);
        EDGES.same("written off so far", x.count(8), 9);
        x.done(1, 1);
        x.lend(1, 2, 2);
        EDGES.same("close another one", x.close(1), 2);
        EDGES.same("written off so far", x.count(8), 11);
        x.undo();
        EDGES.same("written off behind undo", x.count(8), 9);
    }

    private static void othersStay() {
        EDGES.about(WRITTEN_OFF);
        BufferLoans x = Checks.desk("1:99:1;1:99:1;1:99:1;1:99:1;1:99:1;1:99:1");
        for (int lender = 0; lender < 6; lender++) {
            for (int borrower = 5; borrower >= 0; borrower--) {
                if (lender != borrower) {
                    x.lend(lender, borrower, 1 + lender);
                }
            }
        }
        x.done(3, 1 + 299);
        // its own days are used, what it lent is called back, and it has borrowed the rest
        EDGES.same("left of the one that is closed", x.project(3, 2), 0);
        int owes = x.project(3, 4);
        EDGES.same("close", x.close(3), owes);
        EDGES.same("loans among the 5 others", x.count(2), 20);
        int place = 0;
        for (int lender = 0; lender < 6; lender++) {
            for (int borrower = 5; borrower >= 0; borrower--) {
                if (lender != borrower && lender != 3 && borrower != 3) {
                    EDGES.same("lender at " + place, x.loan(place, 0), lender);
                    EDGES.same("borrower at " + place, x.loan(place, 1), borrower);
                    place++;
                }
            }
        }
    }

    private static void closedForGood() {
        EDGES.about("A project is open until it is closed.");
        Supplier<BufferLoans> make = LoanEdgesTest::withClosed;
        EDGES.looks("open ones", make, x -> x.count(1), 2);
        EDGES.looks("all of them", make, x -> x.count(0), 4);
        EDGES.looks("what it can lend", make, x -> x.project(2, 14), 0);
        EDGES.looks("its days left", make, x -> x.project(2, 2), 9);
        EDGES.looks("its lenders", make, x -> x.lender(2, 0), -1);
        EDGES.looks("lenders of an open one", make, x -> x.lender(0, 1), -1);
        EDGES.looks("what it bears", make, x -> x.bears(2), -1);
        EDGES.looks("the weakest one", make, BufferLoans::weakest, 0);
    }

    private static void sumOfDaysLeft() {
        EDGES.about("(For each project its days left are always its buffer, less the days used, with the spared ones "
            + "taken from these, plus what it owes, less what it has lent out, plus what it won, less what it lost.)");
        BufferLoans x = Checks.desk("5:20:5+5;3:10:5+5;9:30:5;1:0:5");
        x.lend(2, 3, 4);
        int[][] steps = {{0, 30}, {1, 0}, {3, 20}, {0, 2}, {2, 9}, {1, 40}};
        for (int[] step : steps) {
            x.done(step[0], step[1]);
            sums(x);
        }
        for (int p = 0; p < 4; p++) {
            x.close(p);
            sums(x);
        }
        EDGES.same("loans when all are closed", x.count(2), 0);
    }

    private static void sums(BufferLoans x) {
        for (int p = 0; p < 4; p++) {
            long[] d = Looks.days(x, p);
            EDGES.same("left of " + p, d[0], x.project(p, 1) - d[1] + d[2] - d[3] + d[5] - d[6]);
        }
    }
}
