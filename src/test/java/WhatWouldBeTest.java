import java.util.function.Supplier;

/** Promises 22 to 27: ifDone, bears, weakest, bestRule, lateShare, digest. */
public final class WhatWouldBeTest {
    private static final Class<IndexOutOfBoundsException> PLACE = IndexOutOfBoundsException.class;
    private static final Class<IllegalArgumentException> VALUE = IllegalArgumentException.class;
    private static final Checks CHECKS = new Checks();

    public static void main(String[] args) {
        ifDone();
        bears();
        weakest();
        bestRule();
        lateShare();
        digest();
        digestOfShares();
        CHECKS.end("WhatWouldBeTest");
    }

    private static void would(BufferLoans x, int project, int days, int... due) {
        for (int what = 0; what < 5; what++) {
            CHECKS.same("ifDone(" + project + ", " + days + ", " + what + ")", x.ifDone(project, days, what), due[what]);
        }
    }

    // left: 2, 26, 10, 30; project 0 has lent 6 and 2
    private static BufferLoans fourProjects() {
        BufferLoans x = Checks.desk("5:10:5+5;7:20:4;7:8:4;2:30:4");
        x.lend(0, 1, 6);
        x.lend(0, 2, 2);
        return x;
    }

    // promise 22
    private static void ifDone() {
        BufferLoans x = fourProjects();
        long before = x.digest();
        would(x, 0, 45, 0, 30, 8, 0, 30);
        would(x, 0, 300, 244, 41, 8, 0, 41);
        would(x, 0, 6, 0, 0, 0, 1, 0);
        would(x, 0, 9, 0, 0, 2, 0, 0);
        would(x, 0, 0, 0, 0, 0, 7, 0);
        // 4 spared days and the days left, of which 4 are paid back
        would(x, 1, 0, 0, 0, 0, 26, 2);
        would(x, 1, 4, 0, 0, 0, 26, 6);
        CHECKS.same("digest behind the looks", x.digest(), before);
        x.plan(1, 1);
        // and then, ahead of the second task, the rest
        would(x, 1, 0, 0, 0, 0, 24, 0);
        x.done(2, 4);
        would(x, 2, 4, -1, -1, -1, -1, -1);
        x.close(2);
        would(x, 2, 4, -1, -1, -1, -1, -1);
        CHECKS.refused("ifDone(4, 0, 0)", PLACE, () -> x.ifDone(4, 0, 0));
        CHECKS.refused("ifDone(4, 301, 5)", PLACE, () -> x.ifDone(4, 301, 5));
        CHECKS.refused("ifDone(-1, 0, 0)", PLACE, () -> x.ifDone(-1, 0, 0));
        CHECKS.refused("ifDone(0, 301, 0)", VALUE, () -> x.ifDone(0, 301, 0));
        CHECKS.refused("ifDone(0, -1, 0)", VALUE, () -> x.ifDone(0, -1, 0));
        CHECKS.refused("ifDone(0, 0, 5)", VALUE, () -> x.ifDone(0, 0, 5));
        CHECKS.refused("ifDone(0, 0, -1)", VALUE, () -> x.ifDone(0, 0, -1));
        CHECKS.refused("ifDone(2, 301, 0)", VALUE, () -> x.ifDone(2, 301, 0));
    }

    // promise 23
    private static void bears() {
        BufferLoans x = fourProjects();
        // 2 left, 6 and 2 called back, and then 14, 6 and 21 borrowed
        CHECKS.same("bears(0)", x.bears(0), 51);
        CHECKS.same("late at the edge", x.ifDone(0, 5 + 51, 0), 0);
        CHECKS.same("late behind it", x.ifDone(0, 5 + 52, 0), 1);
        // 26 left, and 8 and 21 borrowed: project 0 keeps 3 of its 2 days
        CHECKS.same("bears(1)", x.bears(1), 55);
        // a borrower with fewer days left than it owes
        BufferLoans y = Checks.desk("5:50:1;5:0:1");
        y.lend(0, 1, 30);
        y.done(1, 11);
        CHECKS.same("bears(0) with a part called back", y.bears(0), 40);
        CHECKS.same("bears(1)", y.bears(1), 25);
        BufferLoans z = new BufferLoans();
        z.open(1, 7);
        z.open(1, 50);
        CHECKS.same("bears without a task", z.bears(0), 42);
        z.close(1);
        CHECKS.same("bears alone", z.bears(0), 7);
        CHECKS.same("bears of a closed one", z.bears(1), -1);
        CHECKS.refused("bears(2)", PLACE, () -> z.bears(2));
        CHECKS.refused("bears(-1)", PLACE, () -> z.bears(-1));
        // more than a delay can be: 99 and five times 99 that are kept by none
        BufferLoans w = Checks.desk("1:99:1;1:99:1;1:99:1;1:99:1;1:99:1;1:99:1");
        w.set(1, 0);
        CHECKS.same("bears more than 300", w.bears(0), 594);
    }

    // promise 24
    private static void weakest() {
        BufferLoans x = new BufferLoans();
        CHECKS.same("weakest of none", x.weakest(), -1);
        x.open(5, 20);
        x.open(5, 10);
        x.open(5, 10);
        // 20 + 7 + 7, 10 + 14 + 7, 10 + 14 + 7
        CHECKS.same("of several the lowest", x.weakest(), 1);
        x.close(1);
        CHECKS.same("weakest of the open ones", x.weakest(), 2);
        x.close(2);
        CHECKS.same("the only open one", x.weakest(), 0);
        x.close(0);
        CHECKS.same("weakest if none is open", x.weakest(), -1);
    }

    // promise 25: whenever days are borrowed this one has 0 days left by each rule, and otherwise
    // the rules do the same, so that the lowest one is always the best
    private static void bestRule() {
        BufferLoans x = Checks.desk("5:10:5+5;9:10:5;1:50:5");
        x.set(0, 2);
        long before = x.digest();
        CHECKS.same("bestRule without a delay", x.bestRule(0, 5), 0);
        CHECKS.same("bestRule of spared days", x.bestRule(0, 0), 0);
        CHECKS.same("bestRule of own days", x.bestRule(0, 15), 0);
        CHECKS.same("bestRule of borrowed days", x.bestRule(0, 25), 0);
        CHECKS.same("bestRule of late days", x.bestRule(0, 300), 0);
        CHECKS.same("digest behind the looks", x.digest(), before);
        x.done(1, 5);
        CHECKS.same("bestRule without a next task", x.bestRule(1, 5), -1);
        x.close(1);
        CHECKS.same("bestRule of a closed one", x.bestRule(1, 5), -1);
        CHECKS.refused("bestRule(3, 0)", PLACE, () -> x.bestRule(3, 0));
        CHECKS.refused("bestRule(3, 301)", PLACE, () -> x.bestRule(3, 301));
        CHECKS.refused("bestRule(-1, 0)", PLACE, () -> x.bestRule(-1, 0));
        CHECKS.refused("bestRule(0, 301)", VALUE, () -> x.bestRule(0, 301));
        CHECKS.refused("bestRule(1, -1)", VALUE, () -> x.bestRule(1, -1));
    }

    // promise 26
    private static void lateShare() {
        BufferLoans x = Checks.desk("5:10:5+5+5;5:0:5");
        CHECKS.same("no delay", Checks.bits(x.lateShare()), Checks.bits(0.0));
        x.done(0, 2);
        CHECKS.same("spared days are no delay", Checks.bits(x.lateShare()), Checks.bits(0.0));
        x.done(0, 9);
        CHECKS.same("no late day", Checks.bits(x.lateShare()), Checks.bits(0.0));
        // 13 days less 4 are left: 9 of 26 days are charged, 17 of 30 are late
        x.done(0, 31);
        CHECKS.same("some late days", Checks.bits(x.lateShare()), Checks.bits(17.0 / 30.0));
        BufferLoans y = Checks.desk("5:0:5");
        y.done(0, 6);
        CHECKS.same("all late", Checks.bits(y.lateShare()), Checks.bits(1.0));
    }

    // promise 27
    private static void digest() {
        BufferLoans x = new BufferLoans();
        // thirteen values are 0 but for the settings 30 and 50, then come NONE, 0.0 and no characters
        long hash = Checks.mixed(2473, 0, 0, 0, 0, 0, 0, 0, 0, 0, 0, 0, 30, 50, -1, 0, 0);
        CHECKS.same("digest of a new one", x.digest(), hash);
        digest("characters", () -> {
            BufferLoans y = new BufferLoans();
            Checks.type(y, "12a");
            return y;
        }, "12a");
        digest("four projects", WhatWouldBeTest::fourProjects, "");
        digest("late days", WhatWouldBeTest::withLateDays, "");
        digest("a closed project", () -> {
            BufferLoans y = withLateDays();
            y.done(2, 2);
            y.close(2);
            y.set(0, 2);
            Checks.type(y, "5:5:5+5;");
            return y;
        }, "5:5:5+5;");
    }

    private static BufferLoans withLateDays() {
        BufferLoans x = fourProjects();
        x.done(0, 200);
        return x;
    }

    // the bits of many shares, by which the digest tells them
    private static void digestOfShares() {
        for (int delay = 0; delay <= 299; delay += 13) {
            for (int buffer = 0; buffer <= 99; buffer += 11) {
                int d = delay;
                int b = buffer;
                digest(delay + " days and " + buffer, () -> {
                    BufferLoans x = new BufferLoans();
                    x.open(1, b);
                    x.plan(0, 1);
                    x.done(0, 1 + d);
                    return x;
                }, "");
            }
        }
    }

    private static void digest(String what, Supplier<BufferLoans> make, String text) {
        long due = 2473;
        for (long value : Listed.values(make, text)) {
            due = Checks.mixed(due, value);
        }
        CHECKS.same("digest with " + what, make.get().digest(), due);
    }
}
