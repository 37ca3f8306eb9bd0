/** Promises 1 to 5: a new object, open, plan, rank, set. */
public final class ProjectsTest {
    private static final Class<IndexOutOfBoundsException> PLACE = IndexOutOfBoundsException.class;
    private static final Class<IllegalArgumentException> VALUE = IllegalArgumentException.class;
    private static final Class<IllegalStateException> STATE = IllegalStateException.class;
    private static final Checks CHECKS = new Checks();

    public static void main(String[] args) {
        newObject();
        open();
        plan();
        rank();
        set();
        CHECKS.end("ProjectsTest");
    }

    // promise 1
    private static void newObject() {
        BufferLoans x = new BufferLoans();
        CHECKS.same("NONE", BufferLoans.NONE, -1);
        for (int what = 0; what <= 9; what++) {
            CHECKS.same("new: count(" + what + ")", x.count(what), 0);
        }
        CHECKS.same("new: setting(0)", x.setting(0), 0);
        CHECKS.same("new: setting(1)", x.setting(1), 30);
        CHECKS.same("new: setting(2)", x.setting(2), 50);
        CHECKS.same("new: firstError()", x.firstError(), 0);
        CHECKS.same("new: clearBuffer()", x.clearBuffer(), 0);
        CHECKS.same("new: append(49)", x.append(49), 1);
        CHECKS.refused(x, "new: undo()", STATE, x::undo);
    }

    // promise 2
    private static void open() {
        BufferLoans x = new BufferLoans();
        CHECKS.undoable(x, "open(1, 0)", () -> x.open(1, 0), 0);
        CHECKS.undoable(x, "open(9, 99)", () -> x.open(9, 99), 1);
        int[] due = {9, 99, 99, 0, 0, 0, 0, 0, 0, 1, 0, 0, 0, 0, 70};
        for (int what = 0; what < due.length; what++) {
            CHECKS.same("open: project(1, " + what + ")", x.project(1, what), due[what]);
        }
        int[][] wrong = {{0, 1}, {10, 1}, {1, -1}, {1, 100}, {-1, -1}, {Integer.MIN_VALUE, Integer.MAX_VALUE}};
        for (int[] pair : wrong) {
            CHECKS.refused(x, "open(" + pair[0] + ", " + pair[1] + ")", VALUE, () -> x.open(pair[0], pair[1]));
        }
        for (int number = 2; number < 6; number++) {
            CHECKS.same("open(5, 5)", x.open(5, 5), number);
        }
        CHECKS.refused(x, "a seventh open", STATE, () -> x.open(5, 5));
        CHECKS.refused(x, "a seventh open with a wrong rank", VALUE, () -> x.open(0, 5));
    }

    // promise 3
    private static void plan() {
        BufferLoans x = new BufferLoans();
        CHECKS.refused(x, "plan without a project", PLACE, () -> x.plan(0, 1));
        x.open(3, 5);
        CHECKS.undoable(x, "plan(0, 1)", () -> x.plan(0, 1), 0);
        CHECKS.undoable(x, "plan(0, 60)", () -> x.plan(0, 60), 1);
        CHECKS.same("plan: tasks", x.project(0, 7), 2);
        CHECKS.same("plan: planned days", x.project(0, 12), 61);
        CHECKS.same("plan: task(0, 1, 0)", x.task(0, 1, 0), 60);
        CHECKS.same("plan: task(0, 1, 1)", x.task(0, 1, 1), -1);
        CHECKS.refused(x, "plan(0, 0)", VALUE, () -> x.plan(0, 0));
        CHECKS.refused(x, "plan(0, 61)", VALUE, () -> x.plan(0, 61));
        CHECKS.refused(x, "plan(1, 0)", PLACE, () -> x.plan(1, 0));
        CHECKS.refused(x, "plan(-1, 1)", PLACE, () -> x.plan(-1, 1));
        for (int task = 2; task < 8; task++) {
            CHECKS.same("plan(0, 2)", x.plan(0, 2), task);
        }
        CHECKS.refused(x, "a ninth task", STATE, () -> x.plan(0, 2));
        CHECKS.refused(x, "a ninth task with wrong days", VALUE, () -> x.plan(0, 61));
        x.open(3, 5);
        x.close(1);
        CHECKS.refused(x, "plan of a closed project", STATE, () -> x.plan(1, 1));
        CHECKS.refused(x, "plan of a closed project with wrong days", VALUE, () -> x.plan(1, 0));
    }

    // promise 4
    private static void rank() {
        BufferLoans x = new BufferLoans();
        CHECKS.refused(x, "rank without a project", PLACE, () -> x.rank(0, 1));
        x.open(3, 5);
        CHECKS.undoable(x, "rank(0, 9)", () -> x.rank(0, 9), 3);
        CHECKS.same("rank: project(0, 0)", x.project(0, 0), 9);
        CHECKS.undoable(x, "rank(0, 9)", () -> x.rank(0, 9), 9);
        CHECKS.undoable(x, "rank(0, 1)", () -> x.rank(0, 1), 9);
        CHECKS.refused(x, "rank(0, 0)", VALUE, () -> x.rank(0, 0));
        CHECKS.refused(x, "rank(0, 10)", VALUE, () -> x.rank(0, 10));
        CHECKS.refused(x, "rank(1, 10)", PLACE, () -> x.rank(1, 10));
        CHECKS.refused(x, "rank(-1, 1)", PLACE, () -> x.rank(-1, 1));
        x.close(0);
        CHECKS.same("rank of a closed project", x.rank(0, 4), 1);
        CHECKS.same("rank behind it", x.project(0, 0), 4);
    }

    // promise 5
    private static void set() {
        BufferLoans x = new BufferLoans();
        int[] first = {0, 30, 50};
        int[] greatest = {2, 100, 100};
        for (int setting = 0; setting < 3; setting++) {
            int s = setting;
            CHECKS.undoable(x, "set the greatest of " + s, () -> x.set(s, greatest[s]), first[s]);
            CHECKS.same("setting(" + s + ")", x.setting(s), greatest[s]);
            CHECKS.same("set(" + s + ", 0)", x.set(s, 0), greatest[s]);
            CHECKS.same("setting(" + s + ")", x.setting(s), 0);
            CHECKS.refused(x, "set above the greatest of " + s, VALUE, () -> x.set(s, greatest[s] + 1));
            CHECKS.refused(x, "set below 0 of " + s, VALUE, () -> x.set(s, -1));
        }
        CHECKS.refused(x, "set(3, 0)", PLACE, () -> x.set(3, 0));
        CHECKS.refused(x, "set(-1, 0)", PLACE, () -> x.set(-1, 0));
        CHECKS.refused(x, "set(3, -1)", PLACE, () -> x.set(3, -1));
    }
}
