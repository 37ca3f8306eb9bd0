import java.util.function.Supplier;

/** The boundary cases of promises 1 to 5: a new object, open, plan, rank, set. */
public final class ProjectEdgesTest {
    private static final int[] FAR_BELOW = {-1, -2, -100, Integer.MIN_VALUE};
    private static final Edges EDGES = new Edges();

    public static void main(String[] args) {
        newObject();
        newObjectsAreApart();
        sixProjects();
        rangesOfOpen();
        firstNamedOfOpen();
        eightTasks();
        rangesOfPlan();
        planWithoutProject();
        planWhenClosed();
        firstNamedOfPlan();
        ranks();
        firstNamedOfRank();
        settings();
        firstNamedOfSet();
        callsInAll();
        EDGES.end("ProjectEdgesTest");
    }

    private static Supplier<BufferLoans> made(String plans) {
        return () -> Checks.desk(plans);
    }

    private static BufferLoans withProjects(int projects) {
        BufferLoans x = new BufferLoans();
        for (int p = 0; p < projects; p++) {
            x.open(1 + p, 10 * p);
        }
        return x;
    }

    private static BufferLoans withClosed() {
        BufferLoans x = withProjects(2);
        x.close(1);
        return x;
    }

    private static void newObject() {
        EDGES.about("Creates a desk without projects, with an empty buffer of characters.");
        BufferLoans x = new BufferLoans();
        for (int what = 0; what <= 9; what++) {
            EDGES.same("count(" + what + ")", x.count(what), 0);
        }
        EDGES.same("weakest()", x.weakest(), BufferLoans.NONE);
        EDGES.same("lateShare()", Checks.bits(x.lateShare()), 0);
        EDGES.same("firstError()", x.firstError(), 0);
        EDGES.looks("clearBuffer()", BufferLoans::new, BufferLoans::clearBuffer, 0);
        EDGES.same("append(49)", x.append(49), 1);
        EDGES.refused("plan", Edges.PLACE, BufferLoans::new, y -> y.plan(0, 1));
        EDGES.refused("rank", Edges.PLACE, BufferLoans::new, y -> y.rank(0, 1));
        EDGES.refused("done", Edges.PLACE, BufferLoans::new, y -> y.done(0, 1));
        EDGES.refused("lend", Edges.PLACE, BufferLoans::new, y -> y.lend(0, 1, 1));
        EDGES.refused("payBack", Edges.PLACE, BufferLoans::new, y -> y.payBack(0, 1, 1));
        EDGES.refused("close", Edges.PLACE, BufferLoans::new, y -> y.close(0));
        EDGES.refused("openAll", Edges.VALUE, BufferLoans::new, BufferLoans::openAll);
        EDGES.refused("project", Edges.PLACE, BufferLoans::new, y -> y.project(0, 0));
        EDGES.refused("task", Edges.PLACE, BufferLoans::new, y -> y.task(0, 0, 0));
        EDGES.refused("loan", Edges.PLACE, BufferLoans::new, y -> y.loan(0, 0));
        EDGES.refused("owed", Edges.PLACE, BufferLoans::new, y -> y.owed(0, 0));
        EDGES.refused("lender", Edges.PLACE, BufferLoans::new, y -> y.lender(0, 0));
        EDGES.refused("ifDone", Edges.PLACE, BufferLoans::new, y -> y.ifDone(0, 0, 0));
        EDGES.refused("bears", Edges.PLACE, BufferLoans::new, y -> y.bears(0));
        EDGES.refused("bestRule", Edges.PLACE, BufferLoans::new, y -> y.bestRule(0, 0));
        EDGES.about("0: the rule for lenders, 0 to 2, at first 0; 1: what lenders keep, in percent, 0 to 100, "
            + "at first 30; 2: what is paid back ahead of new work, in percent, 0 to 100, at first 50.");
        EDGES.row("settings", Looks.settings(new BufferLoans()), 0, 30, 50);
    }

    private static void newObjectsAreApart() {
        EDGES.about("Creates a desk without projects, with an empty buffer of characters.");
        BufferLoans first = new BufferLoans();
        BufferLoans second = new BufferLoans();
        long before = second.digest();
        first.open(5, 50);
        first.open(6, 60);
        first.plan(0, 7);
        first.lend(0, 1, 5);
        first.done(0, 100);
        first.set(1, 0);
        first.append(49);
        EDGES.same("digest of another object", second.digest(), before);
        EDGES.same("digest of a newer one", new BufferLoans().digest(), before);
    }

    // promise 2
    private static void sixProjects() {
        EDGES.about("There are at most 6 projects, numbered from 0 in the order in which they came.");
        for (int number = 0; number < 6; number++) {
            int projects = number;
            EDGES.undoable("open with " + number, () -> withProjects(projects), x -> x.open(9, 99), number);
        }
        BufferLoans x = withProjects(6);
        for (int p = 0; p < 6; p++) {
            EDGES.same("rank of " + p, x.project(p, 0), 1 + p);
            EDGES.same("buffer of " + p, x.project(p, 1), 10 * p);
        }
        EDGES.about("Throws `IllegalStateException` if there are 6 projects");
        EDGES.refused("a seventh open", Edges.STATE, () -> withProjects(6), y -> y.open(1, 0));
        EDGES.refused("a seventh open with closed ones", Edges.STATE, () -> {
            BufferLoans y = withProjects(6);
            y.close(0);
            y.close(5);
            return y;
        }, y -> y.open(1, 0));
        x.undo();
        EDGES.same("open behind undo", x.open(3, 3), 5);
    }

    private static void rangesOfOpen() {
        EDGES.about("`rank`: 1 to 9");
        for (int rank = 1; rank <= 9; rank++) {
            int it = rank;
            EDGES.undoable("open(" + rank + ", 5)", BufferLoans::new, x -> x.open(it, 5), 0);
            BufferLoans x = new BufferLoans();
            x.open(rank, 5);
            EDGES.same("the rank", x.project(0, 0), rank);
        }
        for (int rank : new int[] {0, -1, 10, 11, Integer.MIN_VALUE, Integer.MAX_VALUE}) {
            EDGES.refused("open(" + rank + ", 5)", Edges.VALUE, BufferLoans::new, x -> x.open(rank, 5));
        }
        EDGES.about("`buffer`: 0 to 99");
        for (int buffer : new int[] {0, 1, 98, 99}) {
            EDGES.undoable("open(5, " + buffer + ")", BufferLoans::new, x -> x.open(5, buffer), 0);
            BufferLoans x = new BufferLoans();
            x.open(5, buffer);
            EDGES.same("the buffer", x.project(0, 1), buffer);
            EDGES.same("the days left, at first its buffer", x.project(0, 2), buffer);
        }
        for (int buffer : new int[] {-1, -2, 100, 101, Integer.MIN_VALUE, Integer.MAX_VALUE}) {
            EDGES.refused("open(5, " + buffer + ")", Edges.VALUE, BufferLoans::new, x -> x.open(5, buffer));
        }
        EDGES.refused("open(0, 100)", Edges.VALUE, BufferLoans::new, x -> x.open(0, 100));
    }

    private static void firstNamedOfOpen() {
        EDGES.about("If several exceptions apply, the one that is named first in the throws clause is thrown.");
        Supplier<BufferLoans> full = () -> withProjects(6);
        EDGES.refused("a seventh open(0, 5)", Edges.VALUE, full, x -> x.open(0, 5));
        EDGES.refused("a seventh open(10, 5)", Edges.VALUE, full, x -> x.open(10, 5));
        EDGES.refused("a seventh open(5, -1)", Edges.VALUE, full, x -> x.open(5, -1));
        EDGES.refused("a seventh open(5, 100)", Edges.VALUE, full, x -> x.open(5, 100));
    }

    // promise 3
    private static void eightTasks() {
        EDGES.about("Returns the number of the task in the chain, from 0.");
        StringBuilder plan = new StringBuilder("5:9:1");
        for (int number = 1; number < 8; number++) {
            EDGES.undoable("plan behind " + plan, made(plan.toString()), x -> x.plan(0, 60), number);
            plan.append("+1");
        }
        EDGES.undoable("plan of a chain without a task", () -> withProjects(1), x -> x.plan(0, 1), 0);
        String eight = plan.toString();
        EDGES.about("Throws `IllegalStateException` if the project is closed, or has 8 tasks");
        EDGES.refused("a ninth task", Edges.STATE, made(eight), x -> x.plan(0, 1));
        EDGES.refused("a ninth task behind 8 that are done", Edges.STATE, () -> {
            BufferLoans x = Checks.desk(eight);
            for (int t = 0; t < 8; t++) {
                x.done(0, 1);
            }
            return x;
        }, x -> x.plan(0, 1));
        EDGES.undoable("a first task beside 8 of another one", made(eight + ";5:9:1"), x -> x.plan(1, 2), 1);
    }

    private static void rangesOfPlan() {
        EDGES.about("`days`: 1 to 60");
        for (int days : new int[] {1, 2, 59, 60}) {
            EDGES.undoable("plan(0, " + days + ")", made("5:9:7"), x -> x.plan(0, days), 1);
            BufferLoans x = Checks.desk("5:9:7");
            x.plan(0, days);
            EDGES.row("the task", Looks.task(x, 0, 1), days, -1, 0, 0, 0, 0);
            EDGES.same("tasks", x.project(0, 7), 2);
            EDGES.same("days planned", x.project(0, 12), 7 + days);
            EDGES.same("days left", x.project(0, 2), 9);
        }
        for (int days : new int[] {0, -1, 61, 62, Integer.MIN_VALUE, Integer.MAX_VALUE}) {
            EDGES.refused("plan(0, " + days + ")", Edges.VALUE, made("5:9:7"), x -> x.plan(0, days));
        }
    }

    private static void planWithoutProject() {
        EDGES.about("Throws `IndexOutOfBoundsException` if there is no such project");
        EDGES.undoable("plan of the last project", made("5:9:7;5:9:7"), x -> x.plan(1, 1), 1);
        EDGES.refused("plan(2, 1) of 2", Edges.PLACE, made("5:9:7;5:9:7"), x -> x.plan(2, 1));
        EDGES.refused("plan(6, 1) of 6", Edges.PLACE, () -> withProjects(6), x -> x.plan(6, 1));
        for (int project : FAR_BELOW) {
            EDGES.refused("plan(" + project + ", 1)", Edges.PLACE, made("5:9:7"), x -> x.plan(project, 1));
        }
        EDGES.refused("plan(greatest, 1)", Edges.PLACE, made("5:9:7"), x -> x.plan(Integer.MAX_VALUE, 1));
    }

    private static void planWhenClosed() {
        EDGES.about("Throws `IllegalStateException` if the project is closed, or has 8 tasks");
        EDGES.refused("plan of a closed one", Edges.STATE, ProjectEdgesTest::withClosed, x -> x.plan(1, 1));
        EDGES.undoable("plan beside a closed one", ProjectEdgesTest::withClosed, x -> x.plan(0, 1), 0);
        BufferLoans x = withClosed();
        x.undo();
        EDGES.same("plan behind undo of close", x.plan(1, 1), 0);
    }

    private static void firstNamedOfPlan() {
        EDGES.about("If several exceptions apply, the one that is named first in the throws clause is thrown.");
        EDGES.refused("plan(2, 0) of 2", Edges.PLACE, ProjectEdgesTest::withClosed, x -> x.plan(2, 0));
        EDGES.refused("plan(-1, 61)", Edges.PLACE, ProjectEdgesTest::withClosed, x -> x.plan(-1, 61));
        EDGES.refused("plan(1, 0) when closed", Edges.VALUE, ProjectEdgesTest::withClosed, x -> x.plan(1, 0));
        EDGES.refused("plan(1, 61) when closed", Edges.VALUE, ProjectEdgesTest::withClosed, x -> x.plan(1, 61));
        EDGES.refused("a ninth plan(0, 0)", Edges.VALUE, made("1:0:1+1+1+1+1+1+1+1"), x -> x.plan(0, 0));
        EDGES.refused("a ninth plan(0, 61)", Edges.VALUE, made("1:0:1+1+1+1+1+1+1+1"), x -> x.plan(0, 61));
    }

    // promise 4
    private static void ranks() {
        EDGES.about("`rank`: 1 to 9");
        for (int rank = 1; rank <= 9; rank++) {
            int it = rank;
            EDGES.undoable("rank(1, " + rank + ")", made("4:9:7;5:8:7"), x -> x.rank(1, it), 5);
            BufferLoans x = Checks.desk("4:9:7;5:8:7");
            x.rank(1, rank);
            EDGES.same("the rank", x.project(1, 0), rank);
            EDGES.same("the rank of another one", x.project(0, 0), 4);
            EDGES.same("the previous rank", x.rank(1, 1), rank);
        }
        for (int rank : new int[] {0, -1, 10, 11, Integer.MIN_VALUE, Integer.MAX_VALUE}) {
            EDGES.refused("rank(0, " + rank + ")", Edges.VALUE, made("4:9:7"), x -> x.rank(0, rank));
        }
        EDGES.undoable("rank of a closed one", ProjectEdgesTest::withClosed, x -> x.rank(1, 7), 2);
        EDGES.about("Throws `IndexOutOfBoundsException` if there is no such project");
        EDGES.refused("rank(2, 1) of 2", Edges.PLACE, made("4:9:7;5:8:7"), x -> x.rank(2, 1));
        EDGES.refused("rank(6, 1) of 6", Edges.PLACE, () -> withProjects(6), x -> x.rank(6, 1));
        for (int project : FAR_BELOW) {
            EDGES.refused("rank(" + project + ", 1)", Edges.PLACE, made("5:9:7"), x -> x.rank(project, 1));
        }
    }

    private static void firstNamedOfRank() {
        EDGES.about("If several exceptions apply, the one that is named first in the throws clause is thrown.");
        EDGES.refused("rank(1, 0) of 1", Edges.PLACE, made("4:9:7"), x -> x.rank(1, 0));
        EDGES.refused("rank(-1, 10)", Edges.PLACE, made("4:9:7"), x -> x.rank(-1, 10));
    }

    // promise 5
    private static void settings() {
        EDGES.about("0: the rule for lenders, 0 to 2, at first 0; 1: what lenders keep, in percent, 0 to 100, "
            + "at first 30; 2: what is paid back ahead of new work, in percent, 0 to 100, at first 50.");
        int[] first = {0, 30, 50};
        int[] greatest = {2, 100, 100};
        for (int setting = 0; setting < 3; setting++) {
            int s = setting;
            for (int value : new int[] {0, 1, greatest[s] - 1, greatest[s]}) {
                EDGES.undoable("set(" + s + ", " + value + ")", BufferLoans::new, x -> x.set(s, value), first[s]);
                BufferLoans x = new BufferLoans();
                x.set(s, value);
                long[] due = {0, 30, 50};
                due[s] = value;
                EDGES.row("settings behind it", Looks.settings(x), due);
                EDGES.same("the previous value", x.set(s, 1), value);
            }
            EDGES.undoable("set to what it is", BufferLoans::new, x -> x.set(s, first[s]), first[s]);
            for (int value : new int[] {-1, greatest[s] + 1, Integer.MIN_VALUE, Integer.MAX_VALUE}) {
                EDGES.refused("set(" + s + ", " + value + ")", Edges.VALUE, BufferLoans::new, x -> x.set(s, value));
            }
        }
        EDGES.about("Throws `IndexOutOfBoundsException` if there is no such setting");
        for (int setting : new int[] {-1, 3, 4, Integer.MIN_VALUE, Integer.MAX_VALUE}) {
            EDGES.refused("set(" + setting + ", 0)", Edges.PLACE, BufferLoans::new, x -> x.set(setting, 0));
        }
    }

    private static void firstNamedOfSet() {
        EDGES.about("If several exceptions apply, the one that is named first in the throws clause is thrown.");
        EDGES.refused("set(3, -1)", Edges.PLACE, BufferLoans::new, x -> x.set(3, -1));
        EDGES.refused("set(-1, 101)", Edges.PLACE, BufferLoans::new, x -> x.set(-1, 101));
    }

    private static void callsInAll() {
        EDGES.about("An object is used for at most 512 calls after it has been made");
        BufferLoans x = new BufferLoans();
        for (int call = 1; call <= 511; call++) {
            EDGES.same("call " + call, x.set(1, call % 101), call == 1 ? 30 : (call - 1) % 101);
        }
        EDGES.same("the last call", x.undo(), 5);
        BufferLoans y = new BufferLoans();
        y.open(5, 99);
        y.open(5, 99);
        for (int call = 3; call <= 512; call += 2) {
            int owed = 99 * (call / 2);
            EDGES.same("lend to and", y.lend(0, 1, 99), owed);
            EDGES.same("lend fro", y.lend(1, 0, 99), owed);
        }
    }
}
