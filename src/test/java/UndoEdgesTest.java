import java.util.ArrayList;
import java.util.List;

/** The boundary cases of promise 14 and of 'Undo'. */
public final class UndoEdgesTest {
    private static final Edges EDGES = new Edges();

    public static void main(String[] args) {
        nothingSaved();
        sixStates();
        oldestDropped();
        manyRoundsOfStates();
        unchangedIsSavedToo();
        notUndoable();
        allButTheBuffer();
        closedAndOpened();
        EDGES.end("UndoEdgesTest");
    }

    private static void nothingSaved() {
        EDGES.about("Throws `IllegalStateException` if there is none");
        EDGES.refusedIn("undo of a new one", Edges.STATE, BufferLoans::new, BufferLoans::undo);
        EDGES.refusedIn("undo behind undo", Edges.STATE, () -> undone(1), BufferLoans::undo);
        EDGES.refusedIn("undo behind 6", Edges.STATE, () -> undone(6), BufferLoans::undo);
        EDGES.refusedIn("undo with characters", Edges.STATE, UndoEdgesTest::typed, BufferLoans::undo);
        BufferLoans x = undone(6);
        EDGES.same("a call behind it", x.set(2, 9), 50);
        EDGES.same("its undo", x.undo(), 0);
        EDGES.same("the setting", x.setting(2), 50);
    }

    private static BufferLoans typed() {
        BufferLoans x = new BufferLoans();
        x.append('1');
        x.append('2');
        x.clearBuffer();
        x.append('3');
        return x;
    }

    private static BufferLoans undone(int calls) {
        BufferLoans x = new BufferLoans();
        for (int call = 0; call < calls; call++) {
            x.open(5, call);
        }
        for (int call = 0; call < calls; call++) {
            x.undo();
        }
        return x;
    }

    private static void sixStates() {
        EDGES.about("At most 6 states are saved; the oldest one is dropped first.");
        for (int calls = 0; calls <= 14; calls++) {
            BufferLoans x = new BufferLoans();
            for (int call = 1; call <= calls; call++) {
                x.set(1, 50 + call);
                EDGES.same("states saved by " + call, x.count(9), Math.min(call, 6));
            }
            int saved = Math.min(calls, 6);
            for (int left = saved - 1; left >= 0; left--) {
                EDGES.same("states left of " + calls, x.undo(), left);
                int call = calls - saved + left;
                EDGES.same("the setting", x.setting(1), call == 0 ? 30 : 50 + call);
                EDGES.same("count(9)", x.count(9), left);
            }
            int all = calls;
            EDGES.refusedIn("undo of no more", Edges.STATE, () -> {
                BufferLoans y = new BufferLoans();
                for (int call = 1; call <= all; call++) {
                    y.set(1, 50 + call);
                }
                for (int left = saved; left > 0; left--) {
                    y.undo();
                }
                return y;
            }, BufferLoans::undo);
        }
    }

    private static void oldestDropped() {
        EDGES.about("At most 6 states are saved; the oldest one is dropped first.");
        BufferLoans x = withDropped();
        for (int left = 5; left >= 0; left--) {
            EDGES.same("states left", x.undo(), left);
        }
        EDGES.same("projects", x.count(0), 2);
        EDGES.same("loans", x.count(2), 0);
        EDGES.same("tasks", x.project(0, 7), 0);
        EDGES.same("rank", x.project(1, 0), 2);
        EDGES.refusedIn("undo of a dropped one", Edges.STATE, () -> {
            BufferLoans y = withDropped();
            for (int call = 0; call < 6; call++) {
                y.undo();
            }
            return y;
        }, BufferLoans::undo);
    }

    // the last two calls drop the states ahead of both projects
    private static BufferLoans withDropped() {
        BufferLoans x = new BufferLoans();
        x.open(1, 11);
        x.open(2, 22);
        x.lend(0, 1, 5);
        x.plan(0, 6);
        x.done(0, 9);
        x.rank(1, 7);
        x.set(0, 2);
        x.payBack(1, 0, 1);
        return x;
    }

    // saves and undoes in rounds of many sizes, so that each place of the saved states is used
    private static void manyRoundsOfStates() {
        EDGES.about("Restores the latest saved state, and drops it.");
        BufferLoans x = new BufferLoans();
        List<Integer> saved = new ArrayList<>();
        int now = 30;
        for (int round = 0; round < 60; round++) {
            for (int call = 0; call < 1 + round % 8; call++) {
                saved.add(now);
                now = (round * 8 + call) % 101;
                x.set(1, now);
            }
            while (saved.size() > 6) {
                saved.remove(0);
            }
            for (int call = 0; call < round % 5 && !saved.isEmpty(); call++) {
                now = saved.remove(saved.size() - 1);
                EDGES.same("states left in round " + round, x.undo(), saved.size());
                EDGES.same("the setting in round " + round, x.setting(1), now);
            }
        }
    }

    private static void unchangedIsSavedToo() {
        EDGES.about("saves the state from before it (also if it changes nothing)");
        EDGES.undoable("set to what it is", BufferLoans::new, x -> x.set(2, 50), 50);
        EDGES.undoable("rank to what it is", () -> Checks.desk("4:4:4"), x -> x.rank(0, 4), 4);
        BufferLoans x = new BufferLoans();
        for (int call = 1; call <= 7; call++) {
            x.set(2, 50);
            EDGES.same("states saved", x.count(9), Math.min(call, 6));
        }
    }

    private static void notUndoable() {
        EDGES.about("Each method that is marked \"undoable\" and does not throw an exception saves the state");
        BufferLoans x = Checks.desk("4:4:4;5:5:5");
        x.append('1');
        x.firstError();
        x.clearBuffer();
        x.digest();
        Looks.ofDesk(x);
        Looks.ofProject(x, 1);
        EDGES.same("states saved by others", x.count(9), 1);
        x.set(1, 1);
        x.set(1, 2);
        x.undo();
        EDGES.same("undo saves none", x.count(9), 2);
        EDGES.same("the setting behind undo", x.setting(1), 1);
        x.undo();
        EDGES.same("the setting behind a second undo", x.setting(1), 30);
    }

    private static void allButTheBuffer() {
        EDGES.about("all but the buffer of characters and the saved states");
        BufferLoans x = new BufferLoans();
        x.append('1');
        x.open(5, 5);
        x.append(':');
        x.open(6, 6);
        x.clearBuffer();
        x.append('2');
        x.append(':');
        x.append('3');
        x.undo();
        EDGES.same("characters", x.append(':'), 4);
        EDGES.same("no error", x.firstError(), 4);
        x.undo();
        EDGES.same("characters", x.append('4'), 5);
        EDGES.same("the plan is whole", x.openAll(), 1);
        EDGES.same("its rank", x.project(0, 0), 2);
        x.undo();
        EDGES.same("the buffer stays cleared", x.clearBuffer(), 0);
        EDGES.same("projects", x.count(0), 0);
    }

    // what was there behind the restored state does not come back with the next calls
    private static void closedAndOpened() {
        EDGES.about("Restores the latest saved state, and drops it.");
        BufferLoans x = Checks.desk("4:40:4+5;5:50:5");
        x.lend(0, 1, 7);
        x.done(0, 90);
        x.done(1, 6);
        x.close(1);
        for (int call = 0; call < 5; call++) {
            x.undo();
        }
        EDGES.same("projects", x.count(0), 0);
        x.open(1, 1);
        x.open(2, 2);
        x.plan(1, 9);
        int[][] due = {{1, 1, 1, 0, 0, 0, 0, 0, 0, 1, 0, 0, 0, 0, 1}, {2, 2, 2, 0, 0, 0, 0, 1, 0, 1, 0, 0, 9, 0, 2}};
        for (int p = 0; p < 2; p++) {
            for (int what = 0; what <= 14; what++) {
                EDGES.same("project(" + p + ", " + what + ")", x.project(p, what), due[p][what]);
            }
        }
        EDGES.row("task", Looks.task(x, 1, 0), 9, -1, 0, 0, 0, 0);
        EDGES.row("loans", Looks.loans(x));
        EDGES.same("late days", x.done(1, 12), 0);
        EDGES.row("loans", Looks.loans(x), 0, 1, 1);
    }
}
