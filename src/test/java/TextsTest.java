/** Promises 10 to 14: append, clearBuffer, firstError, openAll, undo. */
public final class TextsTest {
    private static final Class<IllegalArgumentException> VALUE = IllegalArgumentException.class;
    private static final Class<IllegalStateException> STATE = IllegalStateException.class;
    private static final Checks CHECKS = new Checks();

    public static void main(String[] args) {
        append();
        clearBuffer();
        firstError();
        openAll();
        tooManyProjects();
        undo();
        undoLeavesTheBuffer();
        CHECKS.end("TextsTest");
    }

    // promise 10
    private static void append() {
        BufferLoans x = new BufferLoans();
        int[] wrong = {32, 127, 0, -1, 256, Integer.MAX_VALUE, Integer.MIN_VALUE};
        for (int code : wrong) {
            CHECKS.refused(x, "append(" + code + ")", VALUE, () -> x.append(code));
        }
        CHECKS.same("append(33)", x.append(33), 1);
        CHECKS.same("append(126)", x.append(126), 2);
        for (int length = 3; length <= 60; length++) {
            CHECKS.same("append(49)", x.append(49), length);
        }
        CHECKS.refused(x, "a character too many", STATE, () -> x.append(49));
        CHECKS.refused(x, "a wrong character too many", VALUE, () -> x.append(127));
        CHECKS.same("append is not undoable", x.count(9), 0);
    }

    // promise 11
    private static void clearBuffer() {
        BufferLoans x = new BufferLoans();
        long before = x.digest();
        CHECKS.same("clearBuffer() of nothing", x.clearBuffer(), 0);
        Checks.type(x, "1:2");
        CHECKS.same("clearBuffer() of three", x.clearBuffer(), 3);
        CHECKS.same("clearBuffer() again", x.clearBuffer(), 0);
        CHECKS.same("digest behind it", x.digest(), before);
        CHECKS.same("append behind it", x.append(49), 1);
        CHECKS.same("clearBuffer is not undoable", x.count(9), 0);
    }

    private static void error(String text, int due) {
        BufferLoans x = new BufferLoans();
        Checks.type(x, text);
        long before = x.digest();
        CHECKS.same("firstError of " + text, x.firstError(), due);
        CHECKS.same("digest behind it", x.digest(), before);
        if (due < text.length()) {
            CHECKS.refused(x, "openAll of " + text, VALUE, x::openAll);
        }
    }

    private static void whole(String text, int projects) {
        BufferLoans x = new BufferLoans();
        Checks.type(x, text);
        CHECKS.same("firstError of " + text, x.firstError(), text.length());
        CHECKS.same("openAll of " + text, x.openAll(), projects);
    }

    private static void part(String text) {
        BufferLoans x = new BufferLoans();
        Checks.type(x, text);
        CHECKS.same("firstError of " + text, x.firstError(), text.length());
        CHECKS.refused(x, "openAll of " + text, VALUE, x::openAll);
    }

    // promises 12 and 13: the syntax
    private static void firstError() {
        String[] parts = {"", "1", "9:", "1:0", "1:99", "1:9:", "1:0:1+", "1:0:60+", "1:0:1;", "1:0:1;2", "1:0:1;2:",
            "1:0:1;2:3:", "1:0:1+1+1+1+1+1+1+1;", "1:0:1;1:0:1;1:0:1;1:0:1;1:0:1;1:0:1;1:0:1;1:0:1;"};
        for (String text : parts) {
            part(text);
        }
        whole("1:0:1", 1);
        whole("9:99:60", 1);
        whole("5:10:59+10+9", 1);
        whole("1:0:1+1+1+1+1+1+1+1", 1);
        whole("1:0:1;2:3:4", 2);
        error("0", 0);
        error("10", 1);
        error(":", 0);
        error("a", 0);
        error(";", 0);
        error("+", 0);
        error("1;", 1);
        error("1+", 1);
        error("1::", 2);
        error("1:00", 3);
        error("1:01", 3);
        error("1:100", 4);
        error("1:5;", 3);
        error("1:5+", 3);
        error("1:5::", 4);
        error("1:5:0", 4);
        error("1:5:61", 5);
        error("1:5:70", 5);
        error("1:5:99", 5);
        error("1:5:600", 6);
        error("1:5:100", 6);
        error("1:5:1:", 5);
        error("1:5:1++", 6);
        error("1:5:1+0", 6);
        error("1:5:1+;", 6);
        error("1:5:1;;", 6);
        error("1:5:1;0", 6);
        error("1:5:1;10", 7);
        error("1:5:1;1+", 7);
        error("1:0:1+1+1+1+1+1+1+1+", 19);
        error("1:0:1;1:0:1+1+1+1+1+1+1+1+1", 25);
        error("1:0:1/", 5);
        error("1:0:1<", 5);
        error("1:0:1;1:0:1;1:0:1;1:0:1;1:0:1;1:0:1;1:0:1;1:0:1;1:0:1;1:0:0", 58);
        error("1:0:!", 4);
        error("~", 0);
    }

    // promise 13
    private static void openAll() {
        BufferLoans x = new BufferLoans();
        x.open(4, 4);
        Checks.type(x, "3:10:5+60;9:0:1");
        CHECKS.same("openAll", x.openAll(), 3);
        CHECKS.same("the buffer is cleared", x.clearBuffer(), 0);
        CHECKS.same("undoable as one call", x.count(9), 2);
        int[][] due = {{4, 4, 4, 0, 0}, {3, 10, 10, 2, 65}, {9, 0, 0, 1, 1}};
        int[] whats = {0, 1, 2, 7, 12};
        for (int p = 0; p < 3; p++) {
            for (int i = 0; i < whats.length; i++) {
                CHECKS.same("project(" + p + ", " + whats[i] + ")", x.project(p, whats[i]), due[p][i]);
            }
            CHECKS.same("open " + p, x.project(p, 9), 1);
        }
        CHECKS.same("first task", x.task(1, 0, 0), 5);
        CHECKS.same("second task", x.task(1, 1, 0), 60);
        CHECKS.same("not done", x.task(1, 1, 1), -1);
        CHECKS.same("undo", x.undo(), 1);
        CHECKS.same("all are gone", x.count(0), 1);
        CHECKS.same("the buffer stays cleared", x.clearBuffer(), 0);
        Checks.type(x, "2:2:2");
        CHECKS.same("openAll again", x.openAll(), 2);
        CHECKS.same("tasks", x.project(1, 7), 1);
        CHECKS.same("planned", x.project(1, 12), 2);
    }

    // promise 13: all or none
    private static void tooManyProjects() {
        BufferLoans x = Checks.desk("1:0:1;1:0:1;1:0:1;1:0:1;1:0:1;1:0:1");
        CHECKS.same("six projects", x.count(0), 6);
        BufferLoans y = new BufferLoans();
        Checks.type(y, "1:0:1;1:0:1;1:0:1;1:0:1;1:0:1;1:0:1;1:0:1");
        CHECKS.refused(y, "seven projects", STATE, y::openAll);
        CHECKS.same("the buffer stays", y.clearBuffer(), 41);
        y.open(1, 1);
        Checks.type(y, "1:0:1;1:0:1;1:0:1;1:0:1;1:0:1;1:0:1");
        CHECKS.refused(y, "one and six projects", STATE, y::openAll);
        y.append(';');
        CHECKS.refused(y, "a part of a plan with too many projects", VALUE, y::openAll);
        CHECKS.same("none is opened", y.count(0), 1);
    }

    // promise 14
    private static void undo() {
        BufferLoans x = new BufferLoans();
        CHECKS.refused(x, "undo of nothing", STATE, x::undo);
        long[] digests = new long[9];
        for (int i = 0; i < 8; i++) {
            digests[i] = x.digest() * 31 + x.setting(1);
            x.set(1, 40 + i);
        }
        CHECKS.same("at most 6 are saved", x.count(9), 6);
        for (int i = 7; i >= 2; i--) {
            CHECKS.same("undo", x.undo(), i - 2);
            CHECKS.same("setting", x.setting(1), 40 + i - 1);
        }
        CHECKS.refused(x, "the oldest ones are dropped", STATE, x::undo);
        CHECKS.same("setting stays", x.setting(1), 41);
        x.set(0, 0);
        CHECKS.same("saved also if nothing changes", x.count(9), 1);
        x.open(1, 1);
        x.undo();
        x.open(2, 2);
        x.undo();
        CHECKS.same("undo between", x.undo(), 0);
    }

    // promise 14: all but the buffer of characters and the saved states
    private static void undoLeavesTheBuffer() {
        BufferLoans x = new BufferLoans();
        x.open(5, 50);
        x.open(5, 0);
        x.plan(0, 5);
        x.lend(0, 1, 9);
        Checks.type(x, "1:2");
        x.done(0, 60);
        x.append(':');
        x.undo();
        CHECKS.same("the buffer stays", x.clearBuffer(), 4);
        CHECKS.same("the loan is back", x.owed(1, 0), 9);
        CHECKS.same("the days are back", x.project(0, 2), 41);
        CHECKS.same("the task is not done", x.task(0, 0, 1), -1);
        CHECKS.same("nothing is late", x.count(5), 0);
        x.undo();
        CHECKS.same("the loan is gone", x.count(2), 0);
        CHECKS.same("the days are back", x.project(0, 2), 50);
    }
}
