import java.util.Random;
import java.util.function.LongSupplier;

/** Promises 1 to 27: many runs of calls, each answer beside that of the model. */
public final class ModelTest {
    private static final int RUNS = 400;
    private static final int CALLS = 512;

    private final Random random;
    private final BufferLoans it = new BufferLoans();
    private final Model model = new Model();
    private final StringBuilder told = new StringBuilder();
    private String waiting = "";
    private int calls;

    private ModelTest(long seed) {
        random = new Random(seed);
    }

    public static void main(String[] args) {
        long answers = 0;
        for (int run = 0; run < RUNS; run++) {
            ModelTest test = new ModelTest(run);
            while (test.calls < CALLS) {
                if (!test.call()) {
                    System.out.println("run " + run + ":\n" + test.told);
                    System.exit(1);
                }
            }
            answers += test.calls;
        }
        System.out.println("ModelTest: " + answers + " answers as due");
    }

    private static String answer(LongSupplier call) {
        try {
            return Long.toString(call.getAsLong());
        } catch (RuntimeException e) {
            return e.getClass().getName();
        }
    }

    private boolean same(String what, LongSupplier got, LongSupplier due) {
        // an object is used for at most 512 calls
        if (calls == CALLS) {
            return true;
        }
        calls++;
        String answered = answer(got);
        String wanted = answer(due);
        told.append(what).append(" answered ").append(answered);
        if (!answered.equals(wanted)) {
            told.append(", due is ").append(wanted);
        }
        told.append('\n');
        return answered.equals(wanted);
    }

    private int from(int least, int greatest) {
        return least + random.nextInt(greatest - least + 1);
    }

    /** Mostly within the bounds, at times at them or just outside, seldom far away. */
    private int around(int least, int greatest) {
        int kind = random.nextInt(24);
        if (kind == 0) {
            return from(0, 1) == 0 ? least - 1 : greatest + 1;
        }
        if (kind == 1) {
            return from(0, 1) == 0 ? least : greatest;
        }
        if (kind == 2 && random.nextInt(8) == 0) {
            return random.nextInt();
        }
        return from(least, greatest);
    }

    private int project() {
        return around(0, Math.max(0, (int) model.count(0) - 1));
    }

    /** Days near to those of the next task, or any. */
    private int daysTaken() {
        int kind = random.nextInt(4);
        return kind == 0 ? around(0, 300) : kind == 1 ? from(0, 20) : from(0, 80);
    }

    private String plans() {
        StringBuilder text = new StringBuilder();
        int projects = random.nextInt(5) == 0 ? from(3, 8) : from(1, 3);
        for (int p = 0; p < projects; p++) {
            text.append(p == 0 ? "" : ";").append(from(1, 9)).append(':');
            text.append(from(0, 3) == 0 ? from(0, 9) : from(0, 99));
            int tasks = random.nextInt(5) == 0 ? from(7, 9) : from(1, 3);
            for (int t = 0; t < tasks; t++) {
                text.append(t == 0 ? ":" : "+").append(from(0, 5) == 0 ? around(1, 60) : from(1, 20));
            }
        }
        return text.toString();
    }

    private int nextCode() {
        if (waiting.isEmpty()) {
            waiting = plans();
        }
        char code = waiting.charAt(0);
        waiting = waiting.substring(1);
        if (random.nextInt(60) == 0) {
            return around(33, 126);
        }
        return random.nextInt(60) == 0 ? "0123456789:;+".charAt(random.nextInt(13)) : code;
    }

    private boolean call() {
        int kind = random.nextInt(100);
        if (kind < 30) {
            return text();
        }
        if (kind < 70) {
            return change() && same("digest()", it::digest, model::digest);
        }
        return kind < 85 ? look() : wouldBe();
    }

    private boolean text() {
        int kind = random.nextInt(40);
        if (kind == 0) {
            waiting = "";
            return same("clearBuffer()", it::clearBuffer, model::clearBuffer);
        }
        if (kind < 6) {
            return same("firstError()", it::firstError, model::firstError);
        }
        if (kind < 8 || waiting.isEmpty() && model.firstError() > 0 && kind < 30) {
            return same("openAll()", it::openAll, model::openAll);
        }
        int code = nextCode();
        return same("append(" + code + ")", () -> it.append(code), () -> model.append(code));
    }

    private boolean change() {
        int p = project();
        int q = project();
        switch (random.nextInt(16)) {
            case 0: {
                int rank = around(1, 9);
                int buffer = around(0, 99);
                return random.nextInt(3) > 0 || same("open(" + rank + ", " + buffer + ")",
                    () -> it.open(rank, buffer), () -> model.open(rank, buffer));
            }
            case 1:
            case 2:
            case 3: {
                int days = around(1, 60);
                return same("plan(" + p + ", " + days + ")", () -> it.plan(p, days), () -> model.plan(p, days));
            }
            case 4: {
                int rank = around(1, 9);
                return same("rank(" + p + ", " + rank + ")", () -> it.rank(p, rank), () -> model.rank(p, rank));
            }
            case 5: {
                int setting = around(0, 2);
                int value = setting == 0 ? around(0, 2) : around(0, 100);
                return same("set(" + setting + ", " + value + ")",
                    () -> it.set(setting, value), () -> model.set(setting, value));
            }
            case 6:
            case 7:
            case 8:
            case 9: {
                int days = daysTaken();
                return same("done(" + p + ", " + days + ")", () -> it.done(p, days), () -> model.done(p, days));
            }
            case 10:
            case 11:
            case 12: {
                int days = from(0, 3) == 0 ? around(1, 99) : from(1, 12);
                return same("lend(" + p + ", " + q + ", " + days + ")",
                    () -> it.lend(p, q, days), () -> model.lend(p, q, days));
            }
            case 13: {
                int days = from(0, 5) == 0 ? around(1, 9999) : from(1, 12);
                return same("payBack(" + p + ", " + q + ", " + days + ")",
                    () -> it.payBack(p, q, days), () -> model.payBack(p, q, days));
            }
            case 14:
                return random.nextInt(2) == 0 || same("close(" + p + ")", () -> it.close(p), () -> model.close(p));
            default:
                return same("undo()", it::undo, model::undo);
        }
    }

    private boolean look() {
        int p = project();
        int q = project();
        switch (random.nextInt(7)) {
            case 0: {
                int what = around(0, 14);
                return same("project(" + p + ", " + what + ")", () -> it.project(p, what), () -> model.project(p, what));
            }
            case 1: {
                int task = around(0, 7);
                int what = around(0, 5);
                return same("task(" + p + ", " + task + ", " + what + ")",
                    () -> it.task(p, task, what), () -> model.task(p, task, what));
            }
            case 2: {
                int place = around(0, Math.max(0, (int) model.count(2) - 1));
                int what = around(0, 2);
                return same("loan(" + place + ", " + what + ")", () -> it.loan(place, what), () -> model.loan(place, what));
            }
            case 3:
                return same("owed(" + p + ", " + q + ")", () -> it.owed(p, q), () -> model.owed(p, q));
            case 4: {
                int place = around(0, 4);
                return same("lender(" + p + ", " + place + ")", () -> it.lender(p, place), () -> model.lender(p, place));
            }
            case 5: {
                int what = around(0, 9);
                return same("count(" + what + ")", () -> it.count(what), () -> model.count(what));
            }
            default: {
                int setting = around(0, 2);
                return same("setting(" + setting + ")", () -> it.setting(setting), () -> model.setting(setting));
            }
        }
    }

    private boolean wouldBe() {
        int p = project();
        int days = daysTaken();
        switch (random.nextInt(5)) {
            case 0: {
                int what = around(0, 4);
                return same("ifDone(" + p + ", " + days + ", " + what + ")",
                    () -> it.ifDone(p, days, what), () -> model.ifDone(p, days, what));
            }
            case 1:
                return same("bears(" + p + ")", () -> it.bears(p), () -> model.bears(p));
            case 2:
                return same("weakest()", it::weakest, model::weakest);
            case 3:
                return same("bestRule(" + p + ", " + days + ")", () -> it.bestRule(p, days), () -> model.bestRule(p, days));
            default:
                return same("lateShare()", () -> Checks.bits(it.lateShare()), () -> Checks.bits(model.lateShare()));
        }
    }
}
