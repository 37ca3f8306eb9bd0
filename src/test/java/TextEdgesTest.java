import java.util.function.Supplier;

/** The boundary cases of promises 10 to 13 and of 'Input text'. */
public final class TextEdgesTest {
    private static final String DIGITS = "0123456789";
    private static final String ABOVE_0 = "123456789";
    private static final String SYNTAX = "a character is a syntax error if no plan as a text, of any length, begins "
        + "with the characters before it and this character.";
    private static final String EIGHT = "1:0:1+1+1+1+1+1+1+1";
    private static final Edges EDGES = new Edges();

    public static void main(String[] args) {
        codes();
        sixtyCharacters();
        firstNamedOfAppend();
        clearing();
        clearedForGood();
        whatCanFollow();
        theFirstOne();
        noError();
        plansOfAnyLength();
        completePlans();
        partsOfPlans();
        brokenPlans();
        sixProjects();
        firstNamedOfOpenAll();
        openedAsOneCall();
        EDGES.end("TextEdgesTest");
    }

    private static Supplier<BufferLoans> typed(String text) {
        return () -> {
            BufferLoans x = new BufferLoans();
            Checks.type(x, text);
            return x;
        };
    }

    // so many projects are there, and the text is typed
    private static Supplier<BufferLoans> typedBehind(int projects, String text) {
        return () -> {
            BufferLoans x = new BufferLoans();
            for (int p = 0; p < projects; p++) {
                x.open(5, 5);
            }
            Checks.type(x, text);
            return x;
        };
    }

    private static String plans(int projects) {
        return "1:0:1;".repeat(projects - 1) + "1:0:1";
    }

    // promise 10
    private static void codes() {
        EDGES.about("`code`: the character code, 33 to 126");
        for (int code = 33; code <= 126; code++) {
            BufferLoans x = new BufferLoans();
            EDGES.same("append(" + code + ")", x.append(code), 1);
            EDGES.same("saved states", x.count(9), 0);
            long digest = Checks.mixed(2473, 0, 0, 0, 0, 0, 0, 0, 0, 0, 0, 0, 30, 50, -1, 0, 1, code);
            EDGES.same("digest with " + code, x.digest(), digest);
        }
        for (int code : new int[] {32, 31, 10, 0, -1, 127, 128, 160, 33 + 256, Integer.MIN_VALUE, Integer.MAX_VALUE}) {
            EDGES.refused("append(" + code + ")", Edges.VALUE, BufferLoans::new, x -> x.append(code));
            EDGES.refused("append(" + code + ") behind some", Edges.VALUE, typed("1:"), x -> x.append(code));
        }
    }

    private static void sixtyCharacters() {
        EDGES.about("The buffer of characters has at most 60 characters.");
        BufferLoans x = new BufferLoans();
        for (int length = 1; length <= 60; length++) {
            EDGES.same("the new length of the buffer", x.append(33 + length), length);
        }
        EDGES.about("Throws `IllegalStateException` if the buffer has 60 characters");
        EDGES.refused("a character behind 60", Edges.STATE, typed("1".repeat(60)), y -> y.append('1'));
        EDGES.refused("the greatest one behind 60", Edges.STATE, typed("1".repeat(60)), y -> y.append(126));
        EDGES.same("the length of the full buffer", x.clearBuffer(), 60);
        EDGES.same("append behind it", x.append('1'), 1);
    }

    private static void firstNamedOfAppend() {
        EDGES.about("If several exceptions apply, the one that is named first in the throws clause is thrown.");
        EDGES.refused("append(32) behind 60", Edges.VALUE, typed("1".repeat(60)), x -> x.append(32));
        EDGES.refused("append(127) behind 60", Edges.VALUE, typed("1".repeat(60)), x -> x.append(127));
    }

    // promise 11
    private static void clearing() {
        EDGES.about("Returns the length that it had.");
        for (int length : new int[] {0, 1, 2, 59, 60}) {
            BufferLoans x = typed("9".repeat(length)).get();
            x.set(1, 7);
            long bare = typed("").get().digest();
            EDGES.same("clearBuffer() of " + length, x.clearBuffer(), length);
            EDGES.same("clearBuffer() once more", x.clearBuffer(), 0);
            EDGES.same("saved states", x.count(9), 1);
            x.undo();
            EDGES.same("digest behind it", x.digest(), bare);
            EDGES.same("firstError() behind it", x.firstError(), 0);
        }
    }

    // a shorter text behind a longer one that was cleared, of which nothing is left
    private static void clearedForGood() {
        EDGES.about("Clears the buffer.");
        String[] before = {"1:0:1;", "1:0:1+", "1:0:1:", "1:0:1x", "1:0:19", "1:0:10;", plans(7), plans(7)};
        String[] behind = {"1:0:1", "1:0:1", "1:0:1", "1:0:1", "1:0:1", "1:0:10", plans(6), "1:0:1"};
        int[] projects = {1, 1, 1, 1, 1, 1, 6, 1};
        for (int i = 0; i < before.length; i++) {
            String text = before[i];
            String plan = behind[i];
            Supplier<BufferLoans> make = () -> {
                BufferLoans x = typed(text).get();
                x.clearBuffer();
                Checks.type(x, plan);
                return x;
            };
            EDGES.looks("firstError() of " + plan, make, BufferLoans::firstError, plan.length());
            EDGES.undoable("openAll() of " + plan + " behind " + text, make, BufferLoans::openAll, projects[i]);
            EDGES.same("digest of " + plan + " behind " + text, make.get().digest(), typed(plan).get().digest());
        }
    }

    // promise 12: each character behind some beginnings of plans
    private static void whatCanFollow() {
        EDGES.about(SYNTAX);
        String[][] due = {
            {"", ABOVE_0},
            {"1", ":"}, {"5", ":"}, {"9", ":"},
            {"1:", DIGITS}, {"9:", DIGITS},
            {"1:0", ":"}, {"1:1", DIGITS + ":"}, {"1:9", DIGITS + ":"}, {"1:10", ":"}, {"1:99", ":"},
            {"1:0:", ABOVE_0}, {"1:99:", ABOVE_0},
            {"1:0:1", DIGITS + "+;"}, {"1:0:5", DIGITS + "+;"}, {"1:0:6", "0+;"}, {"1:0:7", "+;"}, {"1:0:9", "+;"},
            {"1:0:10", "+;"}, {"1:0:59", "+;"}, {"1:0:60", "+;"},
            {"1:0:1+", ABOVE_0}, {"1:0:60+", ABOVE_0}, {"1:0:1+5", DIGITS + "+;"}, {"1:0:1+6", "0+;"},
            {"1:0:1+60", "+;"},
            {"1:0:1+1+1+1+1+1+1", DIGITS + "+;"}, {"1:0:1+1+1+1+1+1+1+", ABOVE_0},
            {EIGHT, DIGITS + ";"}, {"1:0:1+1+1+1+1+1+1+60", ";"}, {"1:0:1+1+1+1+1+1+1+7", ";"},
            {"1:0:1;", ABOVE_0}, {EIGHT + ";", ABOVE_0}, {"1:0:1;9", ":"}, {EIGHT + ";9:", DIGITS},
            {EIGHT + ";9:0", ":"}, {EIGHT + ";9:99:", ABOVE_0}, {EIGHT + ";9:99:1", DIGITS + "+;"},
            {EIGHT + ";9:99:1+1", DIGITS + "+;"}, {EIGHT + ";" + EIGHT, DIGITS + ";"},
            {plans(6) + ";", ABOVE_0}, {plans(7), DIGITS + "+;"},
        };
        for (String[] row : due) {
            for (int code = 33; code <= 126; code++) {
                BufferLoans x = typed(row[0]).get();
                x.append(code);
                boolean fits = row[1].indexOf(code) >= 0;
                EDGES.same((char) code + " behind " + row[0], x.firstError(), row[0].length() + (fits ? 1 : 0));
            }
        }
    }

    private static void theFirstOne() {
        EDGES.about("Returns the index of the first character that is a syntax error; the length of the buffer if there "
            + "is none.");
        String[] wrong = {"0:0:1", "!", "x1:0:1", "11:0:1", "1;0:1", "1:100:1", "1:00:1", "1:0:0", "1:0:61", "1:0:1;;",
            "1:0:1++1", "1:0:1:1", EIGHT + "+1", "1:0:1;0:0:1"};
        int[] due = {0, 0, 0, 1, 1, 4, 3, 4, 5, 6, 6, 5, 19, 6};
        for (int i = 0; i < wrong.length; i++) {
            int at = due[i];
            EDGES.looks("firstError() of " + wrong[i], typed(wrong[i]), BufferLoans::firstError, at);
            EDGES.looks("with more behind it", typed(wrong[i] + ";1:0:1~"), BufferLoans::firstError, at);
            EDGES.looks("ahead of it", typed(wrong[i].substring(0, at)), BufferLoans::firstError, at);
        }
        EDGES.looks("the last of 60", typed(plans(9) + ";1:0:1:"), BufferLoans::firstError, 59);
        EDGES.looks("the first of 60", typed("+" + plans(9) + ";1:0:1"), BufferLoans::firstError, 0);
    }

    private static void noError() {
        EDGES.about("Returns the index of the first character that is a syntax error; the length of the buffer if there "
            + "is none.");
        EDGES.looks("firstError() of nothing", BufferLoans::new, BufferLoans::firstError, 0);
        String text = "9:99:60+60+60+60+60+60+60+60;1:0:1+59";
        for (int length = 1; length <= text.length(); length++) {
            EDGES.looks("firstError() of a part", typed(text.substring(0, length)), BufferLoans::firstError, length);
        }
    }

    private static void plansOfAnyLength() {
        EDGES.about(SYNTAX);
        // more projects than there can be, and no room for the rest of the plan
        EDGES.looks("ten projects and one to come", typed("1:0:1;".repeat(10)), BufferLoans::firstError, 60);
        EDGES.looks("a rank at the end", typed("1:0:10;".repeat(5) + "1:0:1;".repeat(4) + "1"),
            BufferLoans::firstError, 60);
        EDGES.looks("a task to come at the end", typed(plans(9) + ";1:0:1+"), BufferLoans::firstError, 60);
    }

    // promise 13
    private static void completePlans() {
        EDGES.about("a rank, 1 to 9, \":\", a buffer, 0 to 99, \":\", and one to eight planned tasks, 1 to 60 each, with "
            + "\"+\" between them.");
        String[] texts = {"1:0:1", "9:99:60", "1:9:9", "1:10:10", "2:98:59", EIGHT, "9:99:60+60+60+60+60+60+60+60",
            "5:5:1+60"};
        int[][] due = {{1, 0, 1, 1}, {9, 99, 1, 60}, {1, 9, 1, 9}, {1, 10, 1, 10}, {2, 98, 1, 59}, {1, 0, 8, 8},
            {9, 99, 8, 480}, {5, 5, 2, 61}};
        for (int i = 0; i < texts.length; i++) {
            EDGES.undoable("openAll() of " + texts[i], typed(texts[i]), BufferLoans::openAll, 1);
            BufferLoans x = typed(texts[i]).get();
            x.openAll();
            EDGES.same("rank", x.project(0, 0), due[i][0]);
            EDGES.same("buffer", x.project(0, 1), due[i][1]);
            EDGES.same("left", x.project(0, 2), due[i][1]);
            EDGES.same("tasks", x.project(0, 7), due[i][2]);
            EDGES.same("days planned", x.project(0, 12), due[i][3]);
            EDGES.same("tasks done", x.project(0, 8), 0);
            EDGES.same("open", x.project(0, 9), 1);
            EDGES.same("the buffer is cleared", x.clearBuffer(), 0);
        }
        BufferLoans y = typed("7:7:1+2+3+4+5+6+7+8;8:88:60+59+58+57+56+55+54+53").get();
        EDGES.same("two projects of eight tasks", y.openAll(), 2);
        for (int task = 0; task < 8; task++) {
            EDGES.row("task of the first one", Looks.task(y, 0, task), 1 + task, -1, 0, 0, 0, 0);
            EDGES.row("task of the second one", Looks.task(y, 1, task), 60 - task, -1, 0, 0, 0, 0);
        }
    }

    private static void partsOfPlans() {
        EDGES.about("Throws `IllegalArgumentException` if the buffer is not a complete plan as a text");
        String[] parts = {"", "1", "1:", "1:0", "1:0:", "1:0:1+", "1:0:1;", "1:0:1;1", "1:0:1;1:", "1:0:1;1:0",
            "1:0:1;1:0:", "1:0:1;1:0:1;", "1:0:1;1:0:1+", "1:0:1+1+1+1+1+1+1+", EIGHT + ";"};
        for (String text : parts) {
            EDGES.refused("openAll() of " + text, Edges.VALUE, typed(text), BufferLoans::openAll);
            EDGES.looks("firstError() of " + text, typed(text), BufferLoans::firstError, text.length());
        }
    }

    private static void brokenPlans() {
        EDGES.about("Throws `IllegalArgumentException` if the buffer is not a complete plan as a text");
        String[] texts = {"0:0:1", "10:0:1", "1:100:1", "1:00:1", "1:01:1", "1:0:0", "1:0:01", "1:0:61", "1:0:100",
            EIGHT + "+1", ";1:0:1", "1:0:1;;1:0:1", "1:0:1:", "1:0:+1", "1::1", ":0:1", "1:0:1,1:0:1", "1:0:1;x",
            "1:0:1x", "-1:0:1", "1:-1:1"};
        for (String text : texts) {
            EDGES.refused("openAll() of " + text, Edges.VALUE, typed(text), BufferLoans::openAll);
        }
    }

    private static void sixProjects() {
        EDGES.about("Opens the projects of the plan in the buffer, with their tasks, all or none, and clears the buffer.");
        for (int there = 0; there < 6; there++) {
            int room = 6 - there;
            EDGES.undoable(room + " behind " + there, typedBehind(there, plans(room)), BufferLoans::openAll, 6);
        }
        EDGES.undoable("one less than all", typedBehind(2, plans(3)), BufferLoans::openAll, 5);
        EDGES.undoable("with 60 characters", typedBehind(3, EIGHT + ";" + EIGHT + ";" + EIGHT + "0"),
            BufferLoans::openAll, 6);
        EDGES.about("Throws `IllegalStateException` if there would be more than 6 projects");
        for (int there = 0; there <= 6; there++) {
            int more = 7 - there;
            EDGES.refused(more + " behind " + there, Edges.STATE, typedBehind(there, plans(more)),
                BufferLoans::openAll);
        }
        EDGES.refused("10 with 60 characters", Edges.STATE, typed(plans(9) + ";1:0:60"), BufferLoans::openAll);
        EDGES.refused("one behind 6 that are closed", Edges.STATE, () -> {
            BufferLoans x = typedBehind(6, "1:0:1").get();
            for (int p = 0; p < 6; p++) {
                x.close(p);
            }
            return x;
        }, BufferLoans::openAll);
    }

    private static void firstNamedOfOpenAll() {
        EDGES.about("If several exceptions apply, the one that is named first in the throws clause is thrown.");
        EDGES.refused("a part of a plan behind 6", Edges.VALUE, typedBehind(6, "1:0:"), BufferLoans::openAll);
        EDGES.refused("no characters behind 6", Edges.VALUE, typedBehind(6, ""), BufferLoans::openAll);
        EDGES.refused("a part of a plan of 7", Edges.VALUE, typed(plans(7) + ";"), BufferLoans::openAll);
        EDGES.refused("a broken plan of 7", Edges.VALUE, typed(plans(7) + "x"), BufferLoans::openAll);
    }

    private static void openedAsOneCall() {
        EDGES.about("Undoable, as one call.");
        BufferLoans x = typedBehind(1, "2:3:4+5;6:7:8;9:10:11").get();
        EDGES.same("projects then", x.openAll(), 4);
        EDGES.same("saved states", x.count(9), 2);
        EDGES.same("states left behind undo", x.undo(), 1);
        EDGES.same("projects behind undo", x.count(0), 1);
        EDGES.same("characters behind undo", x.clearBuffer(), 0);
        Checks.type(x, "3:33:3");
        EDGES.same("other projects then", x.openAll(), 2);
        int[] due = {3, 33, 33, 0, 0, 0, 0, 1, 0, 1, 0, 0, 3, 0, 24};
        for (int what = 0; what < due.length; what++) {
            EDGES.same("project(1, " + what + ")", x.project(1, what), due[what]);
        }
    }
}
