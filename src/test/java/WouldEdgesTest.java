import java.math.BigInteger;
import java.util.List;
import java.util.function.Supplier;

/** The boundary cases of promises 22 to 27: ifDone, bears, weakest, bestRule, lateShare, digest. */
public final class WouldEdgesTest {
    private static final int[] FAR = {-2, -100, Integer.MIN_VALUE, Integer.MAX_VALUE, 1 << 30};
    private static final String FIRST_NAMED = "If several exceptions apply, the one that is named first in the throws "
        + "clause is thrown.";
    private static final Edges EDGES = new Edges();

    public static void main(String[] args) {
        ranges("ifDone", (x, project, days) -> x.ifDone(project, days, 0));
        ranges("bestRule", BufferLoans::bestRule);
        rangeOfWhat();
        noneIfRefused();
        whatWouldBe();
        aheadOfTheNextTask();
        bearsRefused();
        bearsWhenClosed();
        bearsAtTheEdge();
        bearsMoreThanADelay();
        weakestOfNone();
        weakestOfSeveral();
        bestOfSeveral();
        noDelay();
        shareOfLateDays();
        digestOfNothing();
        digestOverflows();
        EDGES.end("WouldEdgesTest");
    }

    private interface Look {
        int at(BufferLoans x, int project, int days);
    }

    private static Supplier<BufferLoans> made(String plans) {
        return () -> Checks.desk(plans);
    }

    // promises 22 and 25: what both name in the same words
    private static void ranges(String name, Look look) {
        EDGES.about("`days`: 0 to 300");
        Supplier<BufferLoans> make = made("5:99:10;5:9:10");
        for (int days : new int[] {0, 1, 9, 10, 11, 60}) {
            EDGES.looks(name + " with " + days, make, x -> look.at(x, 0, days), 0);
        }
        for (int days : new int[] {299, 300}) {
            int late = name.equals("ifDone") ? days - 10 - 99 - 7 : 0;
            EDGES.looks(name + " with " + days, make, x -> look.at(x, 0, days), late);
        }
        for (int days : new int[] {-1, 301, 302}) {
            EDGES.refused(name + " with " + days, Edges.VALUE, make, x -> look.at(x, 0, days));
        }
        EDGES.about("Throws `IndexOutOfBoundsException` if there is no such project");
        EDGES.looks(name + " of the last project", make, x -> look.at(x, 1, 10), 0);
        for (int project : new int[] {-1, 2, 3, 6}) {
            EDGES.refused(name + " of " + project + " of 2", Edges.PLACE, make, x -> look.at(x, project, 10));
        }
        for (int far : FAR) {
            EDGES.refused(name + " of " + far, Edges.PLACE, make, x -> look.at(x, far, 10));
            EDGES.refused(name + " with " + far, Edges.VALUE, make, x -> look.at(x, 0, far));
        }
        EDGES.about(FIRST_NAMED);
        EDGES.refused(name + " of no project with -1", Edges.PLACE, make, x -> look.at(x, 2, -1));
        EDGES.refused(name + " of no project with 301", Edges.PLACE, make, x -> look.at(x, -1, 301));
        for (int project = 0; project < 4; project++) {
            int p = project;
            EDGES.refused(name + " with -1 where done() would be refused", Edges.VALUE, WouldEdgesTest::withoutNext,
                x -> look.at(x, p, -1));
            EDGES.refused(name + " with 301 where done() would be refused", Edges.VALUE, WouldEdgesTest::withoutNext,
                x -> look.at(x, p, 301));
        }
    }

    private static void rangeOfWhat() {
        EDGES.about("Throws `IllegalArgumentException` if days or what is out of range");
        Supplier<BufferLoans> make = made("5:9:10;5:9:10");
        EDGES.looks("what 0", make, x -> x.ifDone(0, 25, 0), 0);
        EDGES.looks("what 4", make, x -> x.ifDone(0, 25, 4), 6);
        for (int what : new int[] {-1, 5, 6}) {
            EDGES.refused("what " + what, Edges.VALUE, make, x -> x.ifDone(0, 25, what));
            EDGES.refused("what " + what + " where done() would be refused", Edges.VALUE, WouldEdgesTest::withoutNext,
                x -> x.ifDone(0, 25, what));
        }
        for (int what : FAR) {
            EDGES.refused("what " + what, Edges.VALUE, make, x -> x.ifDone(0, 25, what));
        }
        EDGES.about(FIRST_NAMED);
        EDGES.refused("what 5 of no project", Edges.PLACE, make, x -> x.ifDone(2, 25, 5));
        EDGES.refused("what -1 of no project with 301", Edges.PLACE, make, x -> x.ifDone(-1, 301, -1));
    }

    private static BufferLoans withoutNext() {
        // no task, a task that is done, closed without a task, closed with one that is done
        BufferLoans x = Checks.desk("5:7:10;5:7:10");
        x.done(0, 10);
        x.done(1, 10);
        x.open(5, 5);
        x.open(5, 5);
        x.close(1);
        x.close(3);
        return x;
    }

    private static void noneIfRefused() {
        EDGES.about("Returns the number; NONE if done() would throw an IllegalStateException.");
        for (int project = 0; project < 4; project++) {
            int p = project;
            for (int days : new int[] {0, 10, 300}) {
                for (int what = 0; what <= 4; what++) {
                    int w = what;
                    EDGES.looks("ifDone(" + p + ", " + days + ", " + w + ")", WouldEdgesTest::withoutNext,
                        x -> x.ifDone(p, days, w), BufferLoans.NONE);
                }
                EDGES.looks("bestRule(" + p + ", " + days + ")", WouldEdgesTest::withoutNext,
                    x -> x.bestRule(p, days), BufferLoans.NONE);
            }
        }
        BufferLoans y = withoutNext();
        y.plan(0, 6);
        EDGES.same("ifDone with one more task", y.ifDone(0, 6, 3), 7);
        EDGES.same("bestRule with one more task", y.bestRule(0, 6), 0);
    }

    private static void would(Supplier<BufferLoans> make, int days, int... due) {
        for (int what = 0; what <= 4; what++) {
            int w = what;
            EDGES.looks("ifDone(0, " + days + ", " + w + ")", make, x -> x.ifDone(0, days, w), due[w]);
        }
        BufferLoans x = make.get();
        EDGES.same("late days by done", x.done(0, days), due[0]);
        int task = x.project(0, 8) - 1;
        EDGES.same("borrowed by done", x.task(0, task, 4), due[1]);
        EDGES.same("called back by done", x.task(0, task, 3), due[2]);
        EDGES.same("left behind done", x.project(0, 2), due[3]);
        EDGES.same("owed behind done", x.project(0, 4), due[4]);
    }

    // 6 days left behind a loan of 4; projects 1 and 2 can lend 10 and 7 behind the call
    private static BufferLoans lending(String plans) {
        BufferLoans x = Checks.desk(plans);
        x.lend(0, 1, 4);
        x.set(1, 50);
        return x;
    }

    private static void whatWouldBe() {
        EDGES.about("0: days that would be late by it; 1: days that would be borrowed; 2: days that would be called back; "
            + "3: its days left then; 4: what it would owe then");
        Supplier<BufferLoans> make = () -> lending("5:10:5;9:20:5;1:14:5");
        int[][] due = {{0, 0, 0, 0, 11, 0}, {4, 0, 0, 0, 7, 0}, {5, 0, 0, 0, 6, 0}, {6, 0, 0, 0, 5, 0},
            {11, 0, 0, 0, 0, 0}, {12, 0, 0, 1, 0, 0}, {15, 0, 0, 4, 0, 0}, {16, 0, 1, 4, 0, 1}, {25, 0, 10, 4, 0, 10},
            {26, 0, 11, 4, 0, 11}, {32, 0, 17, 4, 0, 17}, {33, 1, 17, 4, 0, 17}, {300, 268, 17, 4, 0, 17}};
        for (int[] row : due) {
            would(make, row[0], row[1], row[2], row[3], row[4], row[5]);
        }
        Supplier<BufferLoans> owing = () -> {
            BufferLoans x = Checks.desk("5:0:5;9:20:5");
            x.lend(1, 0, 3);
            return x;
        };
        // spared days are paid back
        would(owing, 5, 0, 0, 0, 3, 3);
        would(owing, 4, 0, 0, 0, 3, 2);
        would(owing, 2, 0, 0, 0, 3, 0);
        would(owing, 1, 0, 0, 0, 4, 0);
        would(owing, 8, 0, 0, 0, 0, 3);
        would(owing, 9, 0, 1, 0, 0, 4);
    }

    private static void aheadOfTheNextTask() {
        EDGES.about("3: its days left then; 4: what it would owe then");
        Supplier<BufferLoans> owing = () -> {
            BufferLoans x = Checks.desk("5:0:5+5;9:20:5");
            x.lend(1, 0, 9);
            return x;
        };
        would(owing, 5, 0, 0, 0, 5, 5);
        would(owing, 6, 0, 0, 0, 4, 5);
        would(owing, 4, 0, 0, 0, 5, 4);
        would(owing, 13, 0, 0, 0, 1, 9);
        would(owing, 14, 0, 0, 0, 0, 9);
        would(owing, 0, 0, 0, 0, 5, 0);
        Supplier<BufferLoans> last = () -> {
            BufferLoans x = Checks.desk("5:9:1+1+1+1+1+1+1+1;9:20:5");
            for (int task = 0; task < 7; task++) {
                x.done(0, 2);
            }
            return x;
        };
        would(last, 3, 0, 0, 0, 0, 0);
        would(last, 17, 0, 14, 0, 0, 14);
        would(last, 18, 1, 14, 0, 0, 14);
    }

    // promise 23
    private static void bearsRefused() {
        EDGES.about("Throws `IndexOutOfBoundsException` if there is no such project");
        EDGES.looks("bears(1) of 2", made("5:9:1;5:9:1"), x -> x.bears(1), 16);
        for (int project : new int[] {-1, 2, 3, 6}) {
            EDGES.refused("bears(" + project + ") of 2", Edges.PLACE, made("5:9:1;5:9:1"), x -> x.bears(project));
        }
        for (int project : FAR) {
            EDGES.refused("bears(" + project + ")", Edges.PLACE, made("5:9:1;5:9:1"), x -> x.bears(project));
        }
    }

    private static void bearsWhenClosed() {
        EDGES.about("Returns the greatest delay that could be charged without a late day; NONE if it is closed.");
        for (int project = 0; project < 4; project++) {
            int p = project;
            // 7 or 5 own days, and what the other open one can lend: 7 - 2 or 5 - 1
            int due = p == 0 ? 7 + 4 : p == 2 ? 5 + 5 : BufferLoans.NONE;
            EDGES.looks("bears(" + p + ")", WouldEdgesTest::withoutNext, x -> x.bears(p), due);
        }
    }

    private static void bearsAtTheEdge(String name, Supplier<BufferLoans> make, int project, int due) {
        EDGES.looks("bears of " + name, make, x -> x.bears(project), due);
        int planned = make.get().task(project, 0, 0);
        EDGES.same("late days with " + name, make.get().done(project, planned + due), 0);
        EDGES.same("late days with one more", make.get().done(project, planned + due + 1), 1);
        EDGES.same("late days with two more", make.get().done(project, planned + due + 2), 2);
    }

    private static void bearsAtTheEdge() {
        EDGES.about("Returns the greatest delay that could be charged without a late day; NONE if it is closed.");
        bearsAtTheEdge("nothing", made("5:0:5"), 0, 0);
        bearsAtTheEdge("own days", made("5:1:5"), 0, 1);
        bearsAtTheEdge("one that keeps all", made("5:1:5;5:0:5"), 0, 1);
        bearsAtTheEdge("one that lends a day", made("5:1:5;5:1:5"), 0, 2);
        bearsAtTheEdge("loans", () -> lending("5:10:5;9:20:5;1:14:5"), 0, 6 + 4 + 10 + 7);
        bearsAtTheEdge("what it owes", () -> lending("5:10:5;9:20:5;1:14:5"), 1, 24 + 1 + 7);
        bearsAtTheEdge("five lenders", made("5:9:5;5:9:5;5:9:5;5:9:5;5:9:5;5:9:5"), 3, 9 + 5 * 7);
        for (int left = 0; left <= 20; left++) {
            int it = left;
            // project 1 owes 6 days, keeps 10, and has so many left
            Supplier<BufferLoans> make = () -> {
                BufferLoans x = Checks.desk("5:6:5;5:20:1+1");
                x.set(1, 50);
                x.set(2, 0);
                x.lend(0, 1, 6);
                x.done(1, 1 + 26 - it);
                return x;
            };
            bearsAtTheEdge("a borrower with " + left, make, 0, Math.min(left, 6) + Math.max(0, left - 16));
        }
    }

    private static void bearsMoreThanADelay() {
        EDGES.about("Returns the greatest delay that could be charged without a late day; NONE if it is closed.");
        BufferLoans x = Checks.desk("5:99:60+60+60+60+60+60+60+60;5:0:1");
        for (int task = 0; task < 8; task++) {
            x.done(0, 0);
        }
        EDGES.same("bears with 579 left", x.bears(0), 579);
        EDGES.same("bears with 550 that can be borrowed", x.bears(1), 550);
        x.lend(0, 1, 99);
        EDGES.same("bears with a loan", x.bears(0), 579);
        EDGES.same("bears with what it owes", x.bears(1), 550);
    }

    // promise 24
    private static void weakestOfNone() {
        EDGES.about("Returns the open project that can bear the least delay, of several the lowest number; NONE if none "
            + "is open.");
        EDGES.looks("weakest of none", BufferLoans::new, BufferLoans::weakest, BufferLoans.NONE);
        Supplier<BufferLoans> one = () -> {
            BufferLoans x = new BufferLoans();
            x.open(5, 99);
            return x;
        };
        EDGES.looks("weakest of one", one, BufferLoans::weakest, 0);
        EDGES.looks("weakest of one that is closed", () -> {
            BufferLoans x = one.get();
            x.close(0);
            return x;
        }, BufferLoans::weakest, BufferLoans.NONE);
        EDGES.looks("weakest that bears nothing", made("5:9:1;5:0:1;5:0:1"), BufferLoans::weakest, 1);
    }

    private static void weakestOfSeveral() {
        EDGES.about("Returns the open project that can bear the least delay, of several the lowest number; NONE if none "
            + "is open.");
        // alike: each bears the same
        BufferLoans x = Checks.desk("5:9:1;5:9:1;5:9:1;5:9:1;5:9:1;5:9:1");
        for (int p = 0; p < 6; p++) {
            EDGES.same("the lowest number of those that are open", x.weakest(), p);
            x.done(p, 1);
            x.close(p);
        }
        EDGES.same("none is open", x.weakest(), BufferLoans.NONE);
        // it bears 9 and five times 7, each other one 10 and five times 7
        for (int weak = 0; weak < 6; weak++) {
            BufferLoans y = new BufferLoans();
            for (int p = 0; p < 6; p++) {
                y.open(5, p == weak ? 9 : 10);
            }
            EDGES.same("five with 10 lend 7 each, one with 9 lends 7 too", y.weakest(), weak);
        }
    }

    // promise 25
    private static void bestOfSeveral() {
        EDGES.about("the least days left of an open project (this one too) would be greatest, of several the lowest one; "
            + "NONE if done() would throw an IllegalStateException.");
        for (int rule = 0; rule <= 2; rule++) {
            int it = rule;
            Supplier<BufferLoans> make = () -> {
                BufferLoans x = Checks.desk("5:10:5+5;9:10:5;1:50:5;5:30:5");
                x.lend(2, 3, 20);
                x.set(0, it);
                return x;
            };
            // by each rule project 0 has nothing left once days are borrowed, and no rule counts before
            for (int days : new int[] {0, 4, 5, 6, 14, 15, 16, 22, 23, 40, 60, 300}) {
                EDGES.looks("bestRule with " + days, make, x -> x.bestRule(0, days), 0);
            }
            EDGES.looks("the setting stays", make, x -> x.bestRule(0, 40) + x.setting(0), it);
        }
    }

    // promise 26
    private static void noDelay() {
        EDGES.about("Returns count(5), as a double, divided by count(7); 0.0 if that is 0.");
        int[] planned = {5, 5, 5};
        int[] days = {0, 4, 5};
        BufferLoans x = Checks.desk("5:0:5+5+5+5");
        EDGES.same("nothing is done", Checks.bits(x.lateShare()), Checks.bits(0.0));
        for (int task = 0; task < planned.length; task++) {
            x.done(0, days[task]);
            EDGES.same("no delay", Checks.bits(x.lateShare()), Checks.bits(0.0));
        }
        x.done(0, 5 + 6);
        EDGES.same("no late day", Checks.bits(x.lateShare()), Checks.bits(0.0));
    }

    private static void shareOfLateDays() {
        EDGES.about("Returns count(5), as a double, divided by count(7); 0.0 if that is 0.");
        for (int buffer = 0; buffer <= 99; buffer++) {
            BufferLoans x = new BufferLoans();
            x.open(5, buffer);
            x.plan(0, 60);
            x.done(0, 60 + 99);
            EDGES.same("99 days of delay and " + buffer, Checks.bits(x.lateShare()), Checks.bits((99.0 - buffer) / 99.0));
        }
        BufferLoans all = Checks.desk("5:0:1+1+1+1+1+1+1+1");
        for (int task = 1; task <= 8; task++) {
            all.done(0, 300);
            EDGES.same("all late", Checks.bits(all.lateShare()), Checks.bits(1.0));
        }
        BufferLoans one = Checks.desk("5:98:60");
        one.done(0, 159);
        EDGES.same("one late day", Checks.bits(one.lateShare()), Checks.bits(1.0 / 99.0));
    }

    // promise 27
    private static void digestOfNothing() {
        EDGES.about("The hash starts at 2473.");
        long due = Checks.mixed(2473, 0, 0, 0, 0, 0, 0, 0, 0, 0, 0, 0, 30, 50, -1, 0, 0);
        BufferLoans x = new BufferLoans();
        EDGES.same("digest of nothing", x.digest(), due);
        EDGES.same("digest once more", x.digest(), due);
    }

    // the sum without an overflow, of which the last 64 bits are left
    private static long hash(List<Long> values) {
        BigInteger hash = BigInteger.valueOf(2473);
        for (long value : values) {
            hash = hash.multiply(BigInteger.valueOf(31)).add(BigInteger.valueOf(value));
        }
        return hash.longValue();
    }

    private static void digestOf(String what, Supplier<BufferLoans> make, String text) {
        EDGES.same("digest of " + what, make.get().digest(), hash(Listed.values(make, text)));
    }

    private static BufferLoans fullDesk() {
        BufferLoans x = Checks.desk("9:99:1+2+3+4+5+6+7+8;1:0:1+2+3+4+5+6+7+8;5:50:9+9+9+9+9+9");
        Checks.type(x, "8:88:60+60+60+60+60+60+60+60;7:7:1+1+1+1+1+1+1+1");
        x.openAll();
        x.open(4, 44);
        for (int pair = 0; pair < 36; pair++) {
            if (pair / 6 != pair % 6 && x.project(pair / 6, 2) > 0) {
                x.lend(pair / 6, pair % 6, 1);
            }
        }
        return x;
    }

    private static BufferLoans usedDesk(int turns) {
        BufferLoans x = fullDesk();
        for (int turn = 0; turn < turns; turn++) {
            x.done(turn % 5, 19 * turn);
        }
        return x;
    }

    private static void digestOverflows() {
        EDGES.about("the hash becomes 31 * hash + v, in long arithmetic with overflow.");
        digestOf("one project", made("1:0:1"), "");
        digestOf("three projects", made("9:99:1+2+3+4+5+6+7+8;1:0:1+2+3+4+5+6+7+8;5:50:9+9+9+9+9+9"), "");
        for (int turns = 0; turns <= 16; turns++) {
            int all = turns;
            digestOf("a full desk behind " + turns, () -> usedDesk(all), "");
        }
        String text = "!~".repeat(30);
        for (int rule = 0; rule <= 2; rule++) {
            int it = rule;
            digestOf("a closed one, 60 characters and rule " + rule, () -> {
                BufferLoans x = usedDesk(16);
                x.close(5);
                x.set(0, it);
                Checks.type(x, text);
                return x;
            }, text);
        }
    }
}
