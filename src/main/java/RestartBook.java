import java.util.Arrays;

/**
 * A book of work on pages that outlives losses of power: changes stand in a log before their pages,
 * and behind a loss the log is looked through, done again and undone, step by step.
 */
public final class RestartBook {
    public static final int NONE = -1;
    public static final int UNKNOWN = -101, OUTSIDE = -102, STATE = -103, ROOM = -104, DOWN = -105;

    private static final int NO_REFUSAL = 0;

    private static final int MOST_WORKS = 200;
    private static final int MOST_CHANGES = 2000;
    private static final int MOST_POINTS = 100;

    /** What the book does; the numbers are those that part() answers. */
    private static final int UP = 0, LOOKING = 1, DOING_AGAIN = 2, ENDING = 3, UNDOING = 4;

    private final Log log = new Log();
    private final Pages pages = new Pages();
    private final Tables tables = new Tables();

    /** A point is forced as it is made, so the latest one is the only one that a restart ever reads. */
    private final Tables toldByPoint = new Tables();
    private int latestPoint = 0;
    private int pointsMade = 0;

    /** Not lowered by a loss: a number is never given a second time. */
    private int worksGiven = 0;

    private int doing = UP;
    private int nextStep = 0;

    private int lookedThrough = 0;
    private int doneAgain = 0;
    private int passedOver = 0;
    private int undone = 0;

    public RestartBook() {
    }

    public int begin() {
        if (doing != UP) {
            return DOWN;
        }
        if (worksGiven >= MOST_WORKS || tables.isFull()) {
            return ROOM;
        }
        worksGiven++;
        tables.bringIn(worksGiven);
        return worksGiven;
    }

    public int add(int work, int page, int word, int much) {
        int refusal = refusalFor(work);
        if (refusal != NO_REFUSAL) {
            return refusal;
        }
        if (!Pages.hasPlace(page, word)) {
            return OUTSIDE;
        }
        if (tables.stateOf(work) != Tables.WORKING) {
            return STATE;
        }
        if (log.changesHeld() >= MOST_CHANGES) {
            return ROOM;
        }
        int n = log.append(Log.CHANGE, work, tables.lastOf(work), page, word, much, 0);
        takeIntoTables(n);
        carryOut(n);
        return n;
    }

    public int back(int work, int to) {
        int refusal = refusalFor(work);
        if (refusal != NO_REFUSAL) {
            return refusal;
        }
        if (to < 0 || to > tables.lastOf(work)) {
            return OUTSIDE;
        }
        if (tables.stateOf(work) != Tables.WORKING) {
            return STATE;
        }
        return undoDownTo(work, to);
    }

    public int prepare(int work) {
        int refusal = refusalFor(work);
        if (refusal != NO_REFUSAL) {
            return refusal;
        }
        if (tables.stateOf(work) != Tables.WORKING) {
            return STATE;
        }
        int n = appendOfWork(Log.PREPARED, work);
        log.forceUpTo(n);
        return n;
    }

    public int commit(int work) {
        int refusal = refusalFor(work);
        if (refusal != NO_REFUSAL) {
            return refusal;
        }
        int n = appendOfWork(Log.DONE, work);
        log.forceUpTo(n);
        appendOfWork(Log.ENDED, work);
        return n;
    }

    public int abort(int work) {
        int refusal = refusalFor(work);
        if (refusal != NO_REFUSAL) {
            return refusal;
        }
        appendOfWork(Log.GIVEN_UP, work);
        int returns = undoDownTo(work, 0);
        appendOfWork(Log.ENDED, work);
        return returns;
    }

    public int write(int page) {
        if (doing != UP) {
            return DOWN;
        }
        if (!Pages.hasPage(page)) {
            return OUTSIDE;
        }
        if (tables.baseOf(page) == 0) {
            return 0;
        }
        log.forceUpTo(pages.markOf(page));
        pages.copyToMedium(page);
        tables.makeClean(page);
        return 1;
    }

    public int force(int n) {
        if (doing != UP) {
            return DOWN;
        }
        if (n < 0) {
            return OUTSIDE;
        }
        log.forceUpTo(n);
        return log.forcedHeld();
    }

    public int point() {
        if (doing != UP) {
            return DOWN;
        }
        if (pointsMade >= MOST_POINTS) {
            return ROOM;
        }
        pointsMade++;
        latestPoint = log.append(Log.POINT_BEGINS, 0, 0, 0, 0, 0, 0);
        toldByPoint.becomeLike(tables);
        log.forceUpTo(log.append(Log.POINT_ENDS, 0, 0, 0, 0, 0, 0));
        return latestPoint;
    }

    public int loss(int keep) {
        if (keep < 0) {
            return OUTSIDE;
        }
        log.loseBehind(keep);
        pages.readAllFromMedium();
        tables.makeEmpty();
        doing = LOOKING;
        nextStep = Math.max(latestPoint, 1);
        passOverPartsWithoutSteps();
        return log.recordsHeld();
    }

    public int restart(int n) {
        if (n < 0) {
            return OUTSIDE;
        }
        int steps = 0;
        while (steps < n && doing != UP) {
            makeStep();
            steps++;
        }
        return steps;
    }

    public int part() {
        return doing;
    }

    public int word(int page, int word) {
        return pages.valueOf(page, word);
    }

    public int page(int page, int what) {
        if (!Pages.hasPage(page)) {
            return OUTSIDE;
        }
        switch (what) {
            case 0:
                return pages.markOf(page);
            case 1:
                return tables.baseOf(page) == 0 ? NONE : tables.baseOf(page);
            case 2:
                return pages.mediumMarkOf(page);
            default:
                return OUTSIDE;
        }
    }

    public int table(int i, int what) {
        int work = tables.workAt(i);
        if (work == 0) {
            return NONE;
        }
        switch (what) {
            case 0:
                return work;
            case 1:
                return tables.stateOf(work);
            case 2:
                return tables.lastOf(work);
            case 3:
                return tables.nextOf(work);
            default:
                return NONE;
        }
    }

    public int record(int n, int what) {
        if (!log.holds(n) || what < Log.KIND || what > Log.GOES_ON) {
            return NONE;
        }
        return log.read(n, what);
    }

    public int count(int what) {
        switch (what) {
            case 0:
                return log.recordsHeld();
            case 1:
                return log.forcedHeld();
            case 2:
                return lookedThrough;
            case 3:
                return doneAgain;
            case 4:
                return passedOver;
            case 5:
                return undone;
            default:
                return OUTSIDE;
        }
    }

    /** The refusals that every call about a work looks for first, in their order. */
    private int refusalFor(int work) {
        if (doing != UP) {
            return DOWN;
        }
        return tables.holds(work) ? NO_REFUSAL : UNKNOWN;
    }

    private int appendOfWork(int kind, int work) {
        int n = log.append(kind, work, tables.lastOf(work), 0, 0, 0, 0);
        takeIntoTables(n);
        return n;
    }

    private int undoDownTo(int work, int to) {
        int most = log.recordsHeld();
        int returns = 0;
        while (returns < most && tables.nextOf(work) > to) {
            undoNext(work);
            returns++;
        }
        return returns;
    }

    private void undoNext(int work) {
        int change = tables.nextOf(work);
        int n = log.append(Log.RETURN, work, tables.lastOf(work),
                log.read(change, Log.PAGE), log.read(change, Log.WORD),
                -log.read(change, Log.MUCH), log.undoingBehind(change));
        takeIntoTables(n);
        carryOut(n);
    }

    /** One rule for both: a record tells the tables the same when it comes and when it is looked through. */
    private void takeIntoTables(int n) {
        int kind = log.read(n, Log.KIND);
        int work = log.read(n, Log.WORK);
        if (work == 0) {
            return;
        }
        tables.bringIn(work);
        tables.setLast(work, n);
        switch (kind) {
            case Log.CHANGE:
                tables.setNext(work, n);
                tables.makeDirty(log.read(n, Log.PAGE), n);
                break;
            case Log.RETURN:
                tables.setNext(work, log.read(n, Log.GOES_ON));
                tables.makeDirty(log.read(n, Log.PAGE), n);
                break;
            case Log.DONE:
                tables.setState(work, Tables.DONE);
                break;
            case Log.GIVEN_UP:
                tables.setState(work, Tables.GIVEN_UP);
                break;
            case Log.PREPARED:
                tables.setState(work, Tables.PREPARED);
                break;
            case Log.ENDED:
                tables.takeOut(work);
                break;
            default:
                break;
        }
    }

    private void carryOut(int n) {
        pages.change(log.read(n, Log.PAGE), log.read(n, Log.WORD), log.read(n, Log.MUCH), n);
    }

    private void makeStep() {
        switch (doing) {
            case LOOKING:
                lookThrough(nextStep);
                nextStep++;
                break;
            case DOING_AGAIN:
                doAgainOrPassOver(nextStep);
                nextStep++;
                break;
            case ENDING:
                appendOfWork(Log.ENDED, tables.leastWorkIn(Tables.DONE));
                break;
            case UNDOING:
                undoOrEnd(tables.workToUndo());
                break;
            default:
                break;
        }
        passOverPartsWithoutSteps();
    }

    private void passOverPartsWithoutSteps() {
        if (doing == LOOKING && nextStep > log.recordsHeld()) {
            doing = DOING_AGAIN;
            int least = tables.leastBase();
            nextStep = least == 0 ? log.recordsHeld() + 1 : least;
        }
        if (doing == DOING_AGAIN && nextStep > log.recordsHeld()) {
            doing = ENDING;
        }
        if (doing == ENDING && tables.leastWorkIn(Tables.DONE) == 0) {
            doing = UNDOING;
        }
        if (doing == UNDOING && tables.workToUndo() == 0) {
            doing = UP;
        }
    }

    private void lookThrough(int n) {
        lookedThrough++;
        if (log.read(n, Log.KIND) == Log.POINT_ENDS) {
            tables.bringInMissing(toldByPoint);
        } else {
            takeIntoTables(n);
        }
    }

    private void doAgainOrPassOver(int n) {
        if (!log.changesPage(n)) {
            return;
        }
        int page = log.read(n, Log.PAGE);
        int base = tables.baseOf(page);
        if (base != 0 && base <= n && pages.markOf(page) < n) {
            carryOut(n);
            doneAgain++;
        } else {
            passedOver++;
        }
    }

    private void undoOrEnd(int work) {
        if (tables.nextOf(work) > 0) {
            undoNext(work);
            undone++;
        } else {
            appendOfWork(Log.ENDED, work);
        }
    }

    /** The records; what a loss takes stays in its row and is written over by what comes next. */
    private static final class Log {
        static final int CHANGE = 1, RETURN = 2, DONE = 3, GIVEN_UP = 4, ENDED = 5, PREPARED = 6;
        static final int POINT_BEGINS = 7, POINT_ENDS = 8;

        /** What a record tells; the numbers are those that record() takes. */
        static final int KIND = 0, WORK = 1, BEFORE = 2, PAGE = 3, WORD = 4, MUCH = 5, GOES_ON = 6;

        private static final int WIDTH = 7;
        private static final int ROOM_AT_FIRST = 128;

        private int[] cells = new int[ROOM_AT_FIRST * WIDTH];
        private int records = 0;
        private int forced = 0;
        private int changes = 0;

        int recordsHeld() {
            return records;
        }

        int forcedHeld() {
            return forced;
        }

        int changesHeld() {
            return changes;
        }

        boolean holds(int n) {
            return n >= 1 && n <= records;
        }

        int read(int n, int what) {
            if (!holds(n) || what < KIND || what > GOES_ON) {
                return 0;
            }
            return cells[(n - 1) * WIDTH + what];
        }

        boolean changesPage(int n) {
            int kind = read(n, KIND);
            return kind == CHANGE || kind == RETURN;
        }

        int append(int kind, int work, int before, int page, int word, int much, int goesOn) {
            int from = records * WIDTH;
            if (from + WIDTH > cells.length) {
                cells = Arrays.copyOf(cells, cells.length * 2);
            }
            cells[from + KIND] = kind;
            cells[from + WORK] = work;
            cells[from + BEFORE] = before;
            cells[from + PAGE] = page;
            cells[from + WORD] = word;
            cells[from + MUCH] = much;
            cells[from + GOES_ON] = goesOn;
            records++;
            if (kind == CHANGE) {
                changes++;
            }
            return records;
        }

        /**
         * Only changes and returns can stand before a change of a work, and undoing goes backwards:
         * so the record before it tells the last change that was and still is not undone.
         */
        int undoingBehind(int change) {
            int before = read(change, BEFORE);
            return read(before, KIND) == RETURN ? read(before, GOES_ON) : before;
        }

        void forceUpTo(int n) {
            forced = Math.max(forced, Math.min(n, records));
        }

        void loseBehind(int keep) {
            int kept = forced + Math.min(keep, records - forced);
            for (int n = kept + 1; n <= records; n++) {
                if (read(n, KIND) == CHANGE) {
                    changes--;
                }
            }
            records = kept;
            forced = kept;
        }
    }

    /** The words and marks of the pages, in memory and on the medium. */
    private static final class Pages {
        static final int PAGES = 64;
        private static final int WORDS = 8;

        private final int[] words = new int[PAGES * WORDS];
        private final int[] marks = new int[PAGES];
        private final int[] mediumWords = new int[PAGES * WORDS];
        private final int[] mediumMarks = new int[PAGES];

        static boolean hasPage(int page) {
            return page >= 0 && page < PAGES;
        }

        static boolean hasPlace(int page, int word) {
            return page >= 0 && page < PAGES && word >= 0 && word < WORDS;
        }

        int valueOf(int page, int word) {
            return hasPlace(page, word) ? words[page * WORDS + word] : 0;
        }

        int markOf(int page) {
            return hasPage(page) ? marks[page] : 0;
        }

        int mediumMarkOf(int page) {
            return hasPage(page) ? mediumMarks[page] : 0;
        }

        void change(int page, int word, int much, int mark) {
            if (hasPlace(page, word)) {
                words[page * WORDS + word] += much;
                marks[page] = mark;
            }
        }

        void copyToMedium(int page) {
            if (hasPage(page)) {
                System.arraycopy(words, page * WORDS, mediumWords, page * WORDS, WORDS);
                mediumMarks[page] = marks[page];
            }
        }

        void readAllFromMedium() {
            System.arraycopy(mediumWords, 0, words, 0, PAGES * WORDS);
            System.arraycopy(mediumMarks, 0, marks, 0, PAGES);
        }
    }

    /** The table of works, by numbers, and that of dirty pages: what a loss empties and a point tells. */
    private static final class Tables {
        static final int WORKING = 1, GIVEN_UP = 2, PREPARED = 3, DONE = 4;

        private static final int MOST_AT_ONCE = 16;
        private static final int NOWHERE = -1;

        private int size = 0;
        private final int[] works = new int[MOST_AT_ONCE];
        private final int[] states = new int[MOST_AT_ONCE];
        private final int[] lasts = new int[MOST_AT_ONCE];
        private final int[] nexts = new int[MOST_AT_ONCE];

        /** 0 for a page that is not dirty. */
        private final int[] bases = new int[Pages.PAGES];

        boolean isFull() {
            return size >= MOST_AT_ONCE;
        }

        boolean holds(int work) {
            return slotOf(work) != NOWHERE;
        }

        int workAt(int i) {
            return i >= 0 && i < size ? works[i] : 0;
        }

        int stateOf(int work) {
            int slot = slotOf(work);
            return slot == NOWHERE ? 0 : states[slot];
        }

        int lastOf(int work) {
            int slot = slotOf(work);
            return slot == NOWHERE ? 0 : lasts[slot];
        }

        int nextOf(int work) {
            int slot = slotOf(work);
            return slot == NOWHERE ? 0 : nexts[slot];
        }

        void setState(int work, int state) {
            int slot = slotOf(work);
            if (slot != NOWHERE) {
                states[slot] = state;
            }
        }

        void setLast(int work, int n) {
            int slot = slotOf(work);
            if (slot != NOWHERE) {
                lasts[slot] = n;
            }
        }

        void setNext(int work, int n) {
            int slot = slotOf(work);
            if (slot != NOWHERE) {
                nexts[slot] = n;
            }
        }

        /** A work that is in the table stays as it is. */
        void bringIn(int work) {
            if (isFull() || slotOf(work) != NOWHERE) {
                return;
            }
            int slot = size;
            while (slot > 0 && works[slot - 1] > work) {
                copySlot(slot - 1, slot);
                slot--;
            }
            size++;
            works[slot] = work;
            states[slot] = WORKING;
            lasts[slot] = 0;
            nexts[slot] = 0;
        }

        void takeOut(int work) {
            int slot = slotOf(work);
            if (slot == NOWHERE) {
                return;
            }
            for (int i = slot; i + 1 < size; i++) {
                copySlot(i + 1, i);
            }
            size--;
        }

        int leastWorkIn(int state) {
            for (int i = 0; i < size; i++) {
                if (states[i] == state) {
                    return works[i];
                }
            }
            return 0;
        }

        /** The first of equals wins, so that of works without a next one the least number goes. */
        int workToUndo() {
            int found = NOWHERE;
            for (int i = 0; i < size; i++) {
                boolean open = states[i] == WORKING || states[i] == GIVEN_UP;
                if (open && (found == NOWHERE || nexts[i] > nexts[found])) {
                    found = i;
                }
            }
            return found == NOWHERE ? 0 : works[found];
        }

        int baseOf(int page) {
            return Pages.hasPage(page) ? bases[page] : 0;
        }

        /** A page that is dirty keeps its base. */
        void makeDirty(int page, int base) {
            if (Pages.hasPage(page) && bases[page] == 0) {
                bases[page] = base;
            }
        }

        void makeClean(int page) {
            if (Pages.hasPage(page)) {
                bases[page] = 0;
            }
        }

        int leastBase() {
            int least = 0;
            for (int i = 0; i < bases.length; i++) {
                if (bases[i] != 0 && (least == 0 || bases[i] < least)) {
                    least = bases[i];
                }
            }
            return least;
        }

        void makeEmpty() {
            size = 0;
            Arrays.fill(bases, 0);
        }

        void becomeLike(Tables other) {
            makeEmpty();
            bringInMissing(other);
        }

        void bringInMissing(Tables other) {
            if (other == null) {
                return;
            }
            for (int i = 0; i < other.size; i++) {
                int work = other.works[i];
                if (!holds(work)) {
                    bringIn(work);
                    setState(work, other.states[i]);
                    setLast(work, other.lasts[i]);
                    setNext(work, other.nexts[i]);
                }
            }
            for (int page = 0; page < other.bases.length; page++) {
                makeDirty(page, other.bases[page]);
            }
        }

        private int slotOf(int work) {
            for (int i = 0; i < size; i++) {
                if (works[i] == work) {
                    return i;
                }
            }
            return NOWHERE;
        }

        private void copySlot(int from, int to) {
            works[to] = works[from];
            states[to] = states[from];
            lasts[to] = lasts[from];
            nexts[to] = nexts[from];
        }
    }
}
