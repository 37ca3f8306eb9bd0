/**
 * Buffer days that projects lend to each other: chains of tasks that are done early or late,
 * delays that are charged, loans, plans as texts, and undo.
 */
public final class BufferLoans {
    public static final int NONE = -1;

    private static final int MOST_PROJECTS = 6;
    private static final int MOST_TASKS = 8;
    // at most one loan for each pair of a lender and a borrower
    private static final int MOST_LOANS = MOST_PROJECTS * (MOST_PROJECTS - 1);
    private static final int MOST_SAVED = 6;
    private static final int MOST_CHARACTERS = 60;

    private static final int LEAST_CODE = 33;
    private static final int GREATEST_CODE = 126;
    private static final int GREATEST_RANK = 9;
    private static final int GREATEST_BUFFER = 99;
    private static final int GREATEST_PLANNED = 60;
    private static final int GREATEST_TAKEN = 300;
    private static final int GREATEST_LENT = 99;
    private static final int GREATEST_PAID = 9999;
    private static final int GREATEST_COUNT = 9;
    private static final int GREATEST_RESULT = 4;

    // the settings
    private static final int RULE = 0;
    private static final int KEPT_PERCENT = 1;
    private static final int REPAID_PERCENT = 2;
    private static final int[] GREATEST_VALUES = {2, 100, 100};

    // the properties of a project, by the numbers of the document; all but CAN_LEND are kept
    private static final int RANK = 0;
    private static final int BUFFER = 1;
    private static final int LEFT = 2;
    private static final int USED = 3;
    private static final int OWES = 4;
    private static final int LENT_OUT = 5;
    private static final int LATE = 6;
    private static final int TASKS = 7;
    private static final int TASKS_DONE = 8;
    private static final int IS_OPEN = 9;
    private static final int WON = 10;
    private static final int LOST = 11;
    private static final int DAYS_PLANNED = 12;
    private static final int DAYS_TAKEN = 13;
    private static final int CAN_LEND = 14;

    // the properties of a task, by the numbers of the document
    private static final int TASK_PLANNED = 0;
    private static final int TASK_TAKEN = 1;
    private static final int TASK_OWN = 2;
    private static final int TASK_CALLED = 3;
    private static final int TASK_BORROWED = 4;
    private static final int TASK_LATE = 5;

    // the parts of a loan, by the numbers of the document
    private static final int LENDER = 0;
    private static final int BORROWER = 1;
    private static final int DAYS = 2;

    private static final long FIRST_HASH = 2473L;
    private static final int DAYS_IN_HASH = 60;
    private static final int LENDERS_IN_HASH = 3;

    private final Desk desk = new Desk();
    private final Desk trial = new Desk();
    private final History history = new History();
    private final Text text = new Text();

    public BufferLoans() {
    }

    // ---- projects

    public int open(int rank, int buffer) throws IllegalArgumentException, IllegalStateException {
        if (isOutside(rank, 1, GREATEST_RANK) || isOutside(buffer, 0, GREATEST_BUFFER)) {
            throw new IllegalArgumentException("rank or buffer out of range");
        }
        if (desk.projects() >= MOST_PROJECTS) {
            throw new IllegalStateException("too many projects");
        }
        history.keep(desk);
        return desk.addProject(rank, buffer);
    }

    public int plan(int project, int days)
            throws IndexOutOfBoundsException, IllegalArgumentException, IllegalStateException {
        needProject(project);
        if (isOutside(days, 1, GREATEST_PLANNED)) {
            throw new IllegalArgumentException("days out of range");
        }
        if (!desk.isOpen(project) || desk.projectPart(project, TASKS) >= MOST_TASKS) {
            throw new IllegalStateException("project closed or with too many tasks");
        }
        history.keep(desk);
        return desk.addTask(project, days);
    }

    public int rank(int project, int rank) throws IndexOutOfBoundsException, IllegalArgumentException {
        needProject(project);
        if (isOutside(rank, 1, GREATEST_RANK)) {
            throw new IllegalArgumentException("rank out of range");
        }
        history.keep(desk);
        return desk.changeRank(project, rank);
    }

    public int set(int setting, int value) throws IndexOutOfBoundsException, IllegalArgumentException {
        needSetting(setting);
        if (isOutside(value, 0, greatestValue(setting))) {
            throw new IllegalArgumentException("value out of range");
        }
        history.keep(desk);
        return desk.changeSetting(setting, value);
    }

    // ---- days

    public int done(int project, int days)
            throws IndexOutOfBoundsException, IllegalArgumentException, IllegalStateException {
        needProject(project);
        needDaysTaken(days);
        if (!desk.hasNextTask(project)) {
            throw new IllegalStateException("project closed or without a next task");
        }
        history.keep(desk);
        return desk.doNextTask(project, days);
    }

    public int lend(int lender, int borrower, int days)
            throws IndexOutOfBoundsException, IllegalArgumentException, IllegalStateException {
        needProject(lender);
        needProject(borrower);
        if (lender == borrower || isOutside(days, 1, GREATEST_LENT)) {
            throw new IllegalArgumentException("same project or days out of range");
        }
        if (!desk.isOpen(lender) || !desk.isOpen(borrower) || desk.projectPart(lender, LEFT) < days) {
            throw new IllegalStateException("project closed or too few days left");
        }
        history.keep(desk);
        desk.lendDays(lender, borrower, days);
        return desk.daysOwed(borrower, lender);
    }

    public int payBack(int borrower, int lender, int days)
            throws IndexOutOfBoundsException, IllegalArgumentException, IllegalStateException {
        needProject(borrower);
        needProject(lender);
        if (lender == borrower || isOutside(days, 1, GREATEST_PAID)) {
            throw new IllegalArgumentException("same project or days out of range");
        }
        if (desk.daysOwed(borrower, lender) < days || desk.projectPart(borrower, LEFT) < days) {
            throw new IllegalStateException("too few days owed or left");
        }
        history.keep(desk);
        desk.payLoan(desk.placeOfLoan(lender, borrower), days);
        return desk.daysOwed(borrower, lender);
    }

    public int close(int project) throws IndexOutOfBoundsException, IllegalStateException {
        needProject(project);
        if (!desk.isOpen(project) || desk.hasNextTask(project)) {
            throw new IllegalStateException("project closed or with a next task");
        }
        history.keep(desk);
        return desk.closeProject(project);
    }

    // ---- texts

    public int append(int code) throws IllegalArgumentException, IllegalStateException {
        if (isOutside(code, LEAST_CODE, GREATEST_CODE)) {
            throw new IllegalArgumentException("code out of range");
        }
        if (text.length() >= MOST_CHARACTERS) {
            throw new IllegalStateException("buffer full");
        }
        text.add(code);
        return text.length();
    }

    public int clearBuffer() {
        int before = text.length();
        text.wipe();
        return before;
    }

    public int firstError() {
        return text.firstFault();
    }

    public int openAll() throws IllegalArgumentException, IllegalStateException {
        if (!text.isWholePlan()) {
            throw new IllegalArgumentException("no complete plan");
        }
        if (desk.projects() + text.projectsInPlan() > MOST_PROJECTS) {
            throw new IllegalStateException("too many projects");
        }
        history.keep(desk);
        openProjectsOfText();
        text.wipe();
        return desk.projects();
    }

    public int undo() throws IllegalStateException {
        if (history.size() == 0) {
            throw new IllegalStateException("nothing saved");
        }
        history.giveBack(desk);
        return history.size();
    }

    // ---- looks; nothing is changed

    public int project(int project, int what) throws IndexOutOfBoundsException, IllegalArgumentException {
        needProject(project);
        if (isOutside(what, RANK, CAN_LEND)) {
            throw new IllegalArgumentException("no such property");
        }
        return desk.projectPart(project, what);
    }

    public int task(int project, int task, int what)
            throws IndexOutOfBoundsException, IllegalArgumentException {
        needProject(project);
        if (isOutside(task, 0, desk.projectPart(project, TASKS) - 1)) {
            throw new IndexOutOfBoundsException("no such task");
        }
        if (isOutside(what, TASK_PLANNED, TASK_LATE)) {
            throw new IllegalArgumentException("no such property");
        }
        return desk.taskPart(project, task, what);
    }

    public int loan(int place, int what) throws IndexOutOfBoundsException, IllegalArgumentException {
        if (isOutside(place, 0, desk.loans() - 1)) {
            throw new IndexOutOfBoundsException("no such loan");
        }
        if (isOutside(what, LENDER, DAYS)) {
            throw new IllegalArgumentException("no such part");
        }
        return desk.loanPart(place, what);
    }

    public int owed(int borrower, int lender) throws IndexOutOfBoundsException {
        needProject(borrower);
        needProject(lender);
        return desk.daysOwed(borrower, lender);
    }

    public int lender(int project, int place) throws IndexOutOfBoundsException, IllegalArgumentException {
        needProject(project);
        if (isOutside(place, 0, MOST_PROJECTS - 2)) {
            throw new IllegalArgumentException("no such place");
        }
        return desk.lenderAt(project, place);
    }

    public int count(int what) throws IllegalArgumentException {
        if (isOutside(what, 0, GREATEST_COUNT)) {
            throw new IllegalArgumentException("no such number");
        }
        return numberOf(what);
    }

    public int setting(int setting) throws IndexOutOfBoundsException {
        needSetting(setting);
        return desk.valueOf(setting);
    }

    // ---- what would be; nothing is changed

    public int ifDone(int project, int days, int what)
            throws IndexOutOfBoundsException, IllegalArgumentException {
        needProject(project);
        needDaysTaken(days);
        if (isOutside(what, 0, GREATEST_RESULT)) {
            throw new IllegalArgumentException("no such result");
        }
        return tryNextTask(project, days) ? resultOfTrial(project, what) : NONE;
    }

    public int bears(int project) throws IndexOutOfBoundsException {
        needProject(project);
        return desk.bearableDelay(project);
    }

    public int weakest() {
        return desk.weakestProject();
    }

    public int bestRule(int project, int days) throws IndexOutOfBoundsException, IllegalArgumentException {
        needProject(project);
        needDaysTaken(days);
        return bestRuleFor(project, days);
    }

    public double lateShare() {
        int delay = desk.delayOfTasks();
        return delay == 0 ? 0.0 : (double) desk.sumOfProjects(LATE) / (double) delay;
    }

    public long digest() {
        long hash = FIRST_HASH;
        for (int what = 0; what <= GREATEST_COUNT; what++) {
            hash = mix(hash, numberOf(what));
        }
        for (int setting = 0; setting < GREATEST_VALUES.length; setting++) {
            hash = mix(hash, desk.valueOf(setting));
        }
        for (int project = 0; project < desk.projects(); project++) {
            hash = mixWhatIs(hash, project);
            hash = mixWhatWouldBe(hash, project);
        }
        for (int place = 0; place < desk.loans(); place++) {
            for (int what = LENDER; what <= DAYS; what++) {
                hash = mix(hash, desk.loanPart(place, what));
            }
        }
        hash = mix(hash, desk.weakestProject());
        hash = mix(hash, bitsOfShare(lateShare()));
        hash = mix(hash, text.length());
        for (int index = 0; index < text.length(); index++) {
            hash = mix(hash, text.codeAt(index));
        }
        return hash;
    }

    private static boolean isOutside(int value, int least, int greatest) {
        return value < least || value > greatest;
    }

    private void needProject(int project) {
        if (isOutside(project, 0, desk.projects() - 1)) {
            throw new IndexOutOfBoundsException("no such project");
        }
    }

    private static void needSetting(int setting) {
        if (isOutside(setting, 0, GREATEST_VALUES.length - 1)) {
            throw new IndexOutOfBoundsException("no such setting");
        }
    }

    private static void needDaysTaken(int days) {
        if (isOutside(days, 0, GREATEST_TAKEN)) {
            throw new IllegalArgumentException("days out of range");
        }
    }

    private static int greatestValue(int setting) {
        return setting >= 0 && setting < GREATEST_VALUES.length ? GREATEST_VALUES[setting] : 0;
    }

    private int numberOf(int what) {
        switch (what) {
            case 0:
                return desk.projects();
            case 1:
                return desk.sumOfProjects(IS_OPEN);
            case 2:
                return desk.loans();
            case 3:
                return desk.sumOfProjects(OWES);
            case 4:
                return desk.sumOfProjects(LEFT);
            case 5:
                return desk.sumOfProjects(LATE);
            case 6:
                return desk.sumOfProjects(TASKS_DONE);
            case 7:
                return desk.delayOfTasks();
            case 8:
                // all that was written off was won by a borrower
                return desk.sumOfProjects(WON);
            default:
                return history.size();
        }
    }

    // The text is a complete plan here, so the first ":" of a project ends its rank (never 0),
    // the second one its buffer, and every other sign, and the end, a task.
    private void openProjectsOfText() {
        int rank = 0;
        int number = 0;
        for (int index = 0; index <= text.length(); index++) {
            int code = index < text.length() ? text.codeAt(index) : ';';
            if (Reader.isDigit(code)) {
                number = number * 10 + (code - '0');
            } else {
                if (code != ':') {
                    desk.addTask(desk.projects() - 1, number);
                } else if (rank == 0) {
                    rank = number;
                } else {
                    desk.addProject(rank, number);
                    rank = 0;
                }
                number = 0;
            }
        }
    }

    private boolean tryNextTask(int project, int days) {
        if (!desk.hasNextTask(project)) {
            return false;
        }
        trial.copyFrom(desk);
        trial.doNextTask(project, days);
        return true;
    }

    private int resultOfTrial(int project, int what) {
        int task = trial.projectPart(project, TASKS_DONE) - 1;
        switch (what) {
            case 0:
                return trial.taskPart(project, task, TASK_LATE);
            case 1:
                return trial.taskPart(project, task, TASK_BORROWED);
            case 2:
                return trial.taskPart(project, task, TASK_CALLED);
            case 3:
                return trial.projectPart(project, LEFT);
            default:
                return trial.projectPart(project, OWES);
        }
    }

    private int bestRuleFor(int project, int days) {
        if (!desk.hasNextTask(project)) {
            return NONE;
        }
        int best = NONE;
        // below all days left, which are never below 0
        int most = -1;
        for (int rule = 0; rule <= greatestValue(RULE); rule++) {
            trial.copyFrom(desk);
            trial.changeSetting(RULE, rule);
            trial.doNextTask(project, days);
            int least = trial.leastDaysLeft();
            if (least > most) {
                most = least;
                best = rule;
            }
        }
        return best;
    }

    private static long mix(long hash, long value) {
        return 31 * hash + value;
    }

    private long mixWhatIs(long before, int project) {
        long hash = before;
        for (int what = RANK; what <= CAN_LEND; what++) {
            hash = mix(hash, desk.projectPart(project, what));
        }
        for (int task = 0; task < desk.projectPart(project, TASKS); task++) {
            for (int what = TASK_PLANNED; what <= TASK_LATE; what++) {
                hash = mix(hash, desk.taskPart(project, task, what));
            }
        }
        for (int place = 0; place < LENDERS_IN_HASH; place++) {
            hash = mix(hash, desk.lenderAt(project, place));
        }
        return hash;
    }

    private long mixWhatWouldBe(long before, int project) {
        long hash = mix(before, desk.bearableDelay(project));
        boolean isTried = tryNextTask(project, DAYS_IN_HASH);
        for (int what = 0; what <= GREATEST_RESULT; what++) {
            hash = mix(hash, isTried ? resultOfTrial(project, what) : NONE);
        }
        hash = mix(hash, bestRuleFor(project, DAYS_IN_HASH));
        for (int lender = 0; lender < desk.projects(); lender++) {
            hash = mix(hash, desk.daysOwed(project, lender));
        }
        return hash;
    }

    // Double.doubleToLongBits by hand, as it is not in the language's library: a share is 0 to 1,
    // doubling it and taking 1.0 off lose nothing, and a share above 0 is far from the smallest
    // doubles, so that it has a leading 1 bit that is not written.
    private static long bitsOfShare(double share) {
        if (share <= 0.0) {
            return 0L;
        }
        double scaled = share;
        long exponent = 1023L;
        for (int step = 0; step < 1022 && scaled < 1.0; step++) {
            scaled = scaled * 2.0;
            exponent--;
        }
        long fraction = (long) ((scaled - 1.0) * (double) (1L << 52));
        return (exponent << 52) | fraction;
    }

    /** Rows of numbers; a cell that is not there is 0 and stays so. */
    private static final class Table {
        private final int columns;
        private final int[] cells;

        Table(int rows, int columns) {
            this.columns = columns;
            cells = new int[Math.max(0, rows * columns)];
        }

        int get(int row, int column) {
            int index = row * columns + column;
            return index >= 0 && index < cells.length ? cells[index] : 0;
        }

        void put(int row, int column, int value) {
            int index = row * columns + column;
            if (index >= 0 && index < cells.length) {
                cells[index] = value;
            }
        }

        void increase(int row, int column, int value) {
            int index = row * columns + column;
            if (index >= 0 && index < cells.length) {
                cells[index] += value;
            }
        }

        // the rows behind it move up by one
        void removeRow(int row) {
            for (int index = row * columns; index >= 0 && index < cells.length - columns; index++) {
                cells[index] = cells[index + columns];
            }
        }

        // the row and those behind it move down by one, the last one out of the table
        void insertRow(int row) {
            int behind = (row + 1) * columns;
            for (int index = cells.length - 1; index >= behind && index >= columns; index--) {
                cells[index] = cells[index - columns];
            }
        }

        void copyFrom(Table other) {
            System.arraycopy(other.cells, 0, cells, 0, Math.min(other.cells.length, cells.length));
        }
    }

    /** The state that is saved and restored: projects, tasks, loans and settings. */
    private static final class Desk {
        private static final int QUEUE_LENDER = 0;
        private static final int QUEUE_DAYS = 1;
        private static final int QUEUE_WEIGHT = 2;

        private final Table projects = new Table(MOST_PROJECTS, CAN_LEND);
        private final Table tasks = new Table(MOST_PROJECTS * MOST_TASKS, TASK_LATE + 1);
        private final Table loans = new Table(MOST_LOANS, DAYS + 1);
        private final Table settings = new Table(1, GREATEST_VALUES.length);
        // no part of the state: made anew by queueLenders
        private final Table queue = new Table(MOST_PROJECTS, QUEUE_WEIGHT + 1);
        private int projectCount;
        private int loanCount;

        Desk() {
            settings.put(0, KEPT_PERCENT, 30);
            settings.put(0, REPAID_PERCENT, 50);
        }

        void copyFrom(Desk other) {
            projects.copyFrom(other.projects);
            tasks.copyFrom(other.tasks);
            loans.copyFrom(other.loans);
            settings.copyFrom(other.settings);
            projectCount = other.projectCount;
            loanCount = other.loanCount;
        }

        int projects() {
            return projectCount;
        }

        int loans() {
            return loanCount;
        }

        boolean isOpen(int project) {
            return projects.get(project, IS_OPEN) == 1;
        }

        boolean hasNextTask(int project) {
            return isOpen(project) && projects.get(project, TASKS_DONE) < projects.get(project, TASKS);
        }

        int projectPart(int project, int what) {
            if (what != CAN_LEND) {
                return projects.get(project, what);
            }
            return isOpen(project) ? lendableDays(project, 0) : 0;
        }

        int taskPart(int project, int task, int what) {
            return tasks.get(rowOfTask(project, task), what);
        }

        int loanPart(int place, int what) {
            return loans.get(place, what);
        }

        int valueOf(int setting) {
            return settings.get(0, setting);
        }

        int changeSetting(int setting, int value) {
            int before = settings.get(0, setting);
            settings.put(0, setting, value);
            return before;
        }

        int changeRank(int project, int rank) {
            int before = projects.get(project, RANK);
            projects.put(project, RANK, rank);
            return before;
        }

        int addProject(int rank, int buffer) {
            int project = projectCount;
            projectCount++;
            projects.put(project, RANK, rank);
            projects.put(project, BUFFER, buffer);
            projects.put(project, LEFT, buffer);
            projects.put(project, IS_OPEN, 1);
            return project;
        }

        int addTask(int project, int days) {
            int task = projects.get(project, TASKS);
            int row = rowOfTask(project, task);
            tasks.put(row, TASK_PLANNED, days);
            tasks.put(row, TASK_TAKEN, NONE);
            projects.increase(project, TASKS, 1);
            projects.increase(project, DAYS_PLANNED, days);
            return task;
        }

        private static int rowOfTask(int project, int task) {
            return project * MOST_TASKS + task;
        }

        int sumOfProjects(int what) {
            int sum = 0;
            for (int project = 0; project < projectCount; project++) {
                sum += projects.get(project, what);
            }
            return sum;
        }

        int delayOfTasks() {
            int delay = 0;
            for (int project = 0; project < projectCount; project++) {
                for (int task = 0; task < projects.get(project, TASKS_DONE); task++) {
                    int row = rowOfTask(project, task);
                    delay += Math.max(0, tasks.get(row, TASK_TAKEN) - tasks.get(row, TASK_PLANNED));
                }
            }
            return delay;
        }

        // of the open projects; NONE if none is open
        int leastDaysLeft() {
            int least = NONE;
            for (int project = 0; project < projectCount; project++) {
                int left = projects.get(project, LEFT);
                if (isOpen(project) && (least == NONE || left < least)) {
                    least = left;
                }
            }
            return least;
        }

        int doNextTask(int project, int days) {
            int row = rowOfTask(project, projects.get(project, TASKS_DONE));
            int planned = tasks.get(row, TASK_PLANNED);
            int spared = Math.max(0, planned - days);
            int delay = Math.max(0, days - planned);
            tasks.put(row, TASK_TAKEN, days);
            projects.increase(project, TASKS_DONE, 1);
            projects.increase(project, DAYS_TAKEN, days);

            useDays(project, -spared);
            repay(project, spared);

            int own = Math.min(delay, projects.get(project, LEFT));
            useDays(project, own);
            int called = callBack(project, delay - own);
            int borrowed = borrow(project, delay - own - called);
            int late = delay - own - called - borrowed;
            tasks.put(row, TASK_OWN, own);
            tasks.put(row, TASK_CALLED, called);
            tasks.put(row, TASK_BORROWED, borrowed);
            tasks.put(row, TASK_LATE, late);
            projects.increase(project, LATE, late);

            if (hasNextTask(project)) {
                repay(project, projects.get(project, LEFT) * settings.get(0, REPAID_PERCENT) / 100);
            }
            return late;
        }

        private void useDays(int project, int days) {
            projects.increase(project, LEFT, -days);
            projects.increase(project, USED, days);
        }

        private int callBack(int project, int need) {
            int called = 0;
            int place = 0;
            for (int unseen = loanCount; unseen > 0 && called < need; unseen--) {
                int days = loans.get(place, DAYS);
                int part = 0;
                if (loans.get(place, LENDER) == project) {
                    int left = projects.get(loans.get(place, BORROWER), LEFT);
                    part = Math.min(need - called, Math.min(left, days));
                    payLoan(place, part);
                    useDays(project, part);
                    called += part;
                }
                // a loan that is paid back whole is gone, and the next one stands at its place
                if (part < days) {
                    place++;
                }
            }
            return called;
        }

        // What others can lend and their order are frozen in the queue ahead of the first loan.
        private int borrow(int project, int need) {
            int lenders = queueLenders(project);
            int borrowed = 0;
            for (int place = 0; place < lenders && borrowed < need; place++) {
                int part = Math.min(need - borrowed, queue.get(place, QUEUE_DAYS));
                lendDays(queue.get(place, QUEUE_LENDER), project, part);
                useDays(project, part);
                borrowed += part;
            }
            return borrowed;
        }

        int lenderAt(int project, int place) {
            if (!isOpen(project) || place >= queueLenders(project)) {
                return NONE;
            }
            return queue.get(place, QUEUE_LENDER);
        }

        // The greatest weight comes first. A later number only passes a smaller weight, so that
        // of several the lowest number comes first.
        private int queueLenders(int project) {
            int size = 0;
            for (int lender = 0; lender < projectCount; lender++) {
                int days = lender != project && isOpen(lender) ? lendableDays(lender, 0) : 0;
                if (days > 0) {
                    int weight = weightOfLender(lender, days);
                    int place = size;
                    while (place > 0 && queue.get(place - 1, QUEUE_WEIGHT) < weight) {
                        place--;
                    }
                    queue.insertRow(place);
                    queue.put(place, QUEUE_LENDER, lender);
                    queue.put(place, QUEUE_DAYS, days);
                    queue.put(place, QUEUE_WEIGHT, weight);
                    size++;
                }
            }
            return size;
        }

        private int weightOfLender(int lender, int days) {
            switch (settings.get(0, RULE)) {
                case 0:
                    return projects.get(lender, RANK);
                case 1:
                    return days;
                default:
                    return -projects.get(lender, LENT_OUT);
            }
        }

        // what an open project can lend when it has so many days less
        private int lendableDays(int project, int less) {
            int kept = projects.get(project, BUFFER) * settings.get(0, KEPT_PERCENT) / 100;
            return Math.max(0, projects.get(project, LEFT) - less - kept);
        }

        int placeOfLoan(int lender, int borrower) {
            for (int place = 0; place < loanCount; place++) {
                if (loans.get(place, LENDER) == lender && loans.get(place, BORROWER) == borrower) {
                    return place;
                }
            }
            return NONE;
        }

        int daysOwed(int borrower, int lender) {
            return loans.get(placeOfLoan(lender, borrower), DAYS);
        }

        void lendDays(int lender, int borrower, int days) {
            int place = placeOfLoan(lender, borrower);
            if (place == NONE) {
                place = loanCount;
                loanCount++;
                loans.put(place, LENDER, lender);
                loans.put(place, BORROWER, borrower);
                loans.put(place, DAYS, 0);
            }
            changeLoan(place, days);
            moveDays(lender, borrower, days);
        }

        void payLoan(int place, int days) {
            int lender = loans.get(place, LENDER);
            int borrower = loans.get(place, BORROWER);
            changeLoan(place, -days);
            moveDays(borrower, lender, days);
        }

        // a loan of 0 days is gone
        private void changeLoan(int place, int days) {
            loans.increase(place, DAYS, days);
            projects.increase(loans.get(place, LENDER), LENT_OUT, days);
            projects.increase(loans.get(place, BORROWER), OWES, days);
            if (loans.get(place, DAYS) == 0) {
                loans.removeRow(place);
                loanCount--;
            }
        }

        private void moveDays(int from, int to, int days) {
            projects.increase(from, LEFT, -days);
            projects.increase(to, LEFT, days);
        }

        private void repay(int borrower, int most) {
            int rest = most;
            int place = 0;
            for (int unseen = loanCount; unseen > 0 && rest > 0; unseen--) {
                int days = loans.get(place, DAYS);
                int part = 0;
                if (loans.get(place, BORROWER) == borrower) {
                    part = Math.min(rest, days);
                    payLoan(place, part);
                    rest -= part;
                }
                if (part < days) {
                    place++;
                }
            }
        }

        int closeProject(int project) {
            repay(project, projects.get(project, LEFT));
            int written = 0;
            int place = 0;
            for (int unseen = loanCount; unseen > 0; unseen--) {
                if (loans.get(place, LENDER) == project || loans.get(place, BORROWER) == project) {
                    written += writeOff(place);
                } else {
                    place++;
                }
            }
            projects.put(project, IS_OPEN, 0);
            return written;
        }

        private int writeOff(int place) {
            int days = loans.get(place, DAYS);
            projects.increase(loans.get(place, LENDER), LOST, days);
            projects.increase(loans.get(place, BORROWER), WON, days);
            changeLoan(place, -days);
            return days;
        }

        // With the greatest delay all days that can be called back are called back, so that the
        // borrowers can lend less by as many.
        int bearableDelay(int project) {
            if (!isOpen(project)) {
                return NONE;
            }
            int bearable = projects.get(project, LEFT);
            for (int other = 0; other < projectCount; other++) {
                if (other != project && isOpen(other)) {
                    int called = Math.min(projects.get(other, LEFT), daysOwed(other, project));
                    bearable += called + lendableDays(other, called);
                }
            }
            return bearable;
        }

        int weakestProject() {
            int weakest = NONE;
            int least = NONE;
            for (int project = 0; project < projectCount; project++) {
                int bearable = bearableDelay(project);
                if (isOpen(project) && (weakest == NONE || bearable < least)) {
                    weakest = project;
                    least = bearable;
                }
            }
            return weakest;
        }
    }

    /** The latest saved states, in a ring, so that the oldest one is dropped by the next. */
    private static final class History {
        private final Desk[] slots = new Desk[MOST_SAVED];
        private int next;
        private int size;

        History() {
            for (int slot = 0; slot < slots.length; slot++) {
                slots[slot] = new Desk();
            }
        }

        int size() {
            return size;
        }

        void keep(Desk desk) {
            Desk slot = slotAt(next);
            if (slot != null) {
                slot.copyFrom(desk);
            }
            next = (next + 1) % MOST_SAVED;
            size = Math.min(size + 1, MOST_SAVED);
        }

        void giveBack(Desk desk) {
            next = (next + MOST_SAVED - 1) % MOST_SAVED;
            size = Math.max(size - 1, 0);
            Desk slot = slotAt(next);
            if (slot != null) {
                desk.copyFrom(slot);
            }
        }

        private Desk slotAt(int slot) {
            return slot >= 0 && slot < slots.length ? slots[slot] : null;
        }
    }

    /** The buffer of characters. */
    private static final class Text {
        private final int[] codes = new int[MOST_CHARACTERS];
        private final Reader reader = new Reader();
        private int length;

        int length() {
            return length;
        }

        int codeAt(int index) {
            return index >= 0 && index < codes.length ? codes[index] : 0;
        }

        void add(int code) {
            if (length >= 0 && length < codes.length) {
                codes[length] = code;
                length++;
            }
        }

        void wipe() {
            length = 0;
        }

        int firstFault() {
            reader.start();
            for (int index = 0; index < length; index++) {
                if (!reader.takes(codeAt(index))) {
                    return index;
                }
            }
            return length;
        }

        boolean isWholePlan() {
            return firstFault() == length && reader.isAtEndOfPlan();
        }

        int projectsInPlan() {
            int projects = 1;
            for (int index = 0; index < length; index++) {
                if (codeAt(index) == ';') {
                    projects++;
                }
            }
            return projects;
        }
    }

    /** Reads a plan as a text, character by character, and tells the first one that fits no plan. */
    private static final class Reader {
        private static final int IN_RANK = 0;
        private static final int IN_BUFFER = 1;
        private static final int IN_TASKS = 2;

        private int part;
        // the number so far, NONE ahead of its first digit
        private int number;
        private int tasks;

        static boolean isDigit(int code) {
            return code >= '0' && code <= '9';
        }

        void start() {
            begin(IN_RANK);
        }

        boolean takes(int code) {
            return isDigit(code) ? takesDigit(code - '0') : number != NONE && takesSign(code);
        }

        boolean isAtEndOfPlan() {
            return part == IN_TASKS && number != NONE;
        }

        private void begin(int nextPart) {
            part = nextPart;
            number = NONE;
        }

        private boolean takesDigit(int digit) {
            int grown = number == NONE ? digit : number * 10 + digit;
            // no digit comes behind a leading zero
            if (number == 0 || grown < leastNumber() || grown > greatestNumber()) {
                return false;
            }
            number = grown;
            return true;
        }

        private int leastNumber() {
            return part == IN_BUFFER ? 0 : 1;
        }

        private int greatestNumber() {
            if (part == IN_RANK) {
                return GREATEST_RANK;
            }
            return part == IN_BUFFER ? GREATEST_BUFFER : GREATEST_PLANNED;
        }

        private boolean takesSign(int code) {
            if (part == IN_RANK && code == ':') {
                begin(IN_BUFFER);
                return true;
            }
            if (part == IN_BUFFER && code == ':') {
                begin(IN_TASKS);
                tasks = 1;
                return true;
            }
            if (part == IN_TASKS && code == '+' && tasks < MOST_TASKS) {
                begin(IN_TASKS);
                tasks++;
                return true;
            }
            if (part == IN_TASKS && code == ';') {
                begin(IN_RANK);
                return true;
            }
            return false;
        }
    }
}
