import java.lang.reflect.Field;
import java.lang.reflect.Method;
import java.lang.reflect.Modifier;
import java.util.Arrays;
import java.util.TreeSet;

/** For each promise of the document its ordinary answers, with some of its edges and wrong inputs. */
public final class RestartBookPromises {
    private static final int NONE = -1, UNKNOWN = -101, OUTSIDE = -102, STATE = -103, ROOM = -104, DOWN = -105;
    private static final int MIN = Integer.MIN_VALUE, MAX = Integer.MAX_VALUE;

    private static int wrong = 0;

    private static void due(String call, int got, int want) {
        if (got != want) {
            wrong++;
            System.out.println(call + " answered " + got + ", due is " + want);
        }
    }

    private static void dueTable(String where, RestartBook x, int i, int... want) {
        for (int what = 0; what < 4; what++) {
            due(where + ": table(" + i + ", " + what + ")", x.table(i, what), want[what]);
        }
    }

    private static void dueRecord(String where, RestartBook x, int n, int... want) {
        for (int what = 0; what < 7; what++) {
            due(where + ": record(" + n + ", " + what + ")", x.record(n, what), want[what]);
        }
    }

    private static RestartBook begun(int works) {
        RestartBook x = new RestartBook();
        for (int i = 0; i < works; i++) {
            x.begin();
        }
        return x;
    }

    /** A book with a forced change of work 1, down behind a loss. */
    private static RestartBook down() {
        RestartBook x = begun(1);
        x.add(1, 0, 0, 5);
        x.force(1);
        x.loss(0);
        return x;
    }

    public static void main(String[] args) {
        face();
        newObject();
        begin();
        add();
        back();
        prepare();
        commit();
        abort();
        write();
        force();
        point();
        pointsInRestart();
        latestPoint();
        loss();
        lossesInEveryPart();
        restart();
        part();
        doingAgain();
        ending();
        undoing();
        preparedOutlives();
        word();
        page();
        table();
        record();
        count();
        System.out.println(wrong == 0 ? "all answers are as due" : wrong + " answers are not as due");
        if (wrong != 0) {
            System.exit(1);
        }
    }

    private static void face() {
        Class<?> c = RestartBook.class;
        due("public final", c.getModifiers(), Modifier.PUBLIC | Modifier.FINAL);
        TreeSet<String> open = new TreeSet<>();
        TreeSet<String> hidden = new TreeSet<>();
        for (Method m : c.getDeclaredMethods()) {
            (Modifier.isPrivate(m.getModifiers()) ? hidden : open).add(m.getName());
        }
        TreeSet<String> wanted = new TreeSet<>(Arrays.asList("begin", "add", "back", "prepare", "commit",
                "abort", "write", "force", "point", "loss", "restart", "part", "word", "page", "table",
                "record", "count"));
        due("the methods of the face " + open, open.equals(wanted) ? 1 : 0, 1);
        hidden.retainAll(wanted);
        due("private methods with a name of the face " + hidden, hidden.size(), 0);
        int constants = 0;
        for (Field f : c.getDeclaredFields()) {
            constants += Modifier.isPrivate(f.getModifiers()) ? 0 : 1;
        }
        due("fields that are not private", constants, 6);
        due("NONE", RestartBook.NONE, NONE);
        due("UNKNOWN", RestartBook.UNKNOWN, UNKNOWN);
        due("OUTSIDE", RestartBook.OUTSIDE, OUTSIDE);
        due("STATE", RestartBook.STATE, STATE);
        due("ROOM", RestartBook.ROOM, ROOM);
        due("DOWN", RestartBook.DOWN, DOWN);
    }

    // Promise 1
    private static void newObject() {
        RestartBook x = new RestartBook();
        due("new: part()", x.part(), 0);
        for (int page = 0; page < 64; page++) {
            due("new: mark", x.page(page, 0), 0);
            due("new: base", x.page(page, 1), NONE);
            due("new: mark on the medium", x.page(page, 2), 0);
        }
        for (int what = 0; what < 6; what++) {
            due("new: count(" + what + ")", x.count(what), 0);
        }
        due("new: record(1, 0)", x.record(1, 0), NONE);
        due("new: table(0, 0)", x.table(0, 0), NONE);
        RestartBook y = begun(1);
        y.add(1, 0, 0, 1);
        due("objects share nothing", x.count(0) + x.word(0, 0), 0);
        x = new RestartBook();
        for (int i = 0; i < 512; i++) {
            due("new: word(" + i / 8 + ", " + i % 8 + ")", x.word(i / 8, i % 8), 0);
        }
    }

    // Promise 2
    private static void begin() {
        RestartBook x = new RestartBook();
        for (int i = 1; i <= 16; i++) {
            due("begin()", x.begin(), i);
            dueTable("begin", x, i - 1, i, 1, 0, 0);
        }
        due("begin: no record", x.count(0), 0);
        due("begin: 17 at once", x.begin(), ROOM);
        x.commit(7);
        due("begin: a place is free", x.begin(), 17);
        due("begin: 17 at once again", x.begin(), ROOM);
        dueTable("begin: by numbers", x, 6, 8, 1, 0, 0);
        dueTable("begin: by numbers", x, 15, 17, 1, 0, 0);

        x = new RestartBook();
        for (int i = 1; i <= 200; i++) {
            due("begin()", x.begin(), i);
            due("abort()", x.abort(i), 0);
        }
        due("begin: 201 in all", x.begin(), ROOM);

        x = begun(1);
        x.add(1, 0, 0, 1);
        x.commit(1);
        x.begin();
        dueTable("begin: nothing of the work that was there", x, 0, 2, 1, 0, 0);

        x = begun(3);
        x.loss(0);
        due("begin: numbers are not given again", x.begin(), 4);
        due("begin: the others are gone", x.table(1, 0), NONE);
        due("begin: down", down().begin(), DOWN);
    }

    // Promise 3
    private static void add() {
        RestartBook x = begun(2);
        due("add", x.add(1, 0, 0, 5), 1);
        due("add", x.add(2, 63, 7, -9), 2);
        due("add", x.add(1, 0, 0, 6), 3);
        due("add", x.add(1, 0, 7, 0), 4);
        due("add: word", x.word(0, 0), 11);
        due("add: word", x.word(63, 7), -9);
        dueRecord("add", x, 1, 1, 1, 0, 0, 0, 5, 0);
        dueRecord("add", x, 2, 1, 2, 0, 63, 7, -9, 0);
        dueRecord("add", x, 3, 1, 1, 1, 0, 0, 6, 0);
        dueTable("add", x, 0, 1, 1, 4, 4);
        dueTable("add", x, 1, 2, 1, 2, 2);
        due("add: mark", x.page(0, 0), 4);
        due("add: base", x.page(0, 1), 1);
        due("add: not on the medium", x.page(0, 2), 0);
        due("add: not forced", x.count(1), 0);
        due("add: wraps", x.add(1, 5, 5, MAX), 5);
        due("add: wraps", x.add(1, 5, 5, 2), 6);
        due("add: wraps", x.word(5, 5), MIN + 1);

        for (int work : new int[] {0, 3, -1, 201, MIN, MAX}) {
            due("add: no work " + work, x.add(work, -1, -1, 1), UNKNOWN);
        }
        for (int page : new int[] {-1, 64, MIN, MAX}) {
            due("add: no page " + page, x.add(1, page, 0, 1), OUTSIDE);
        }
        for (int word : new int[] {-1, 8, MIN, MAX}) {
            due("add: no word " + word, x.add(1, 0, word, 1), OUTSIDE);
        }
        x.prepare(1);
        due("add: prepared", x.add(1, 0, 0, 1), STATE);
        due("add: OUTSIDE before STATE", x.add(1, 64, 0, 1), OUTSIDE);
        x.commit(1);
        due("add: ended", x.add(1, 0, 0, 1), UNKNOWN);
        due("add: down", down().add(9, 99, 99, 1), DOWN);
    }

    // Promise 4
    private static void back() {
        RestartBook x = begun(2);
        due("back: nothing yet", x.back(1, 0), 0);
        due("back: above its last, 0", x.back(1, 1), OUTSIDE);
        x.add(1, 0, 0, 1);
        x.add(2, 0, 0, 100);
        x.add(1, 1, 1, MIN);
        x.add(1, 0, 2, 4);
        x.add(2, 0, 0, 1000);
        due("back: to its last", x.back(1, 4), 0);
        due("back: above its last", x.back(1, 5), OUTSIDE);
        due("back: below 0", x.back(1, -1), OUTSIDE);
        due("back: far off", x.back(1, MAX) + x.back(1, MIN), 2 * OUTSIDE);
        due("back: no record", x.count(0), 5);
        due("back: to a record of another", x.back(1, 2), 2);
        dueRecord("back", x, 6, 2, 1, 4, 0, 2, -4, 3);
        dueRecord("back", x, 7, 2, 1, 6, 1, 1, MIN, 1);
        dueTable("back", x, 0, 1, 1, 7, 1);
        due("back: word", x.word(0, 0), 1101);
        due("back: word", x.word(1, 1), 0);
        due("back: word", x.word(0, 2), 0);
        due("back: mark", x.page(0, 0), 6);
        due("back: mark", x.page(1, 0), 7);
        due("back: again", x.back(1, 2), 0);
        due("back: up to its last, a return", x.back(1, 7), 0);
        due("add behind a return", x.add(1, 3, 3, 3), 8);
        due("back: all", x.back(1, 0), 2);
        dueRecord("back", x, 9, 2, 1, 8, 3, 3, -3, 1);
        dueRecord("back", x, 10, 2, 1, 9, 0, 0, -1, 0);
        dueTable("back", x, 0, 1, 1, 10, 0);
        dueTable("back", x, 1, 2, 1, 5, 5);
        due("back: add behind all", x.add(1, 3, 3, 3), 11);
        due("back: all", x.back(1, 0), 1);
        dueRecord("back", x, 12, 2, 1, 11, 3, 3, -3, 0);
        due("back: not forced", x.count(1), 0);
        due("back: not counted as a restart's", x.count(5), 0);

        due("back: unknown", x.back(3, -1), UNKNOWN);
        x.prepare(2);
        due("back: prepared", x.back(2, 0), STATE);
        due("back: OUTSIDE before STATE", x.back(2, 14), OUTSIDE);
        due("back: down", down().back(1, -1), DOWN);

        RestartBook y = begun(1);
        y.add(1, 4, 0, 1);
        y.write(4);
        y.back(1, 0);
        due("back: makes a written page dirty", y.page(4, 1), 2);
    }

    // Promise 5
    private static void prepare() {
        RestartBook x = begun(2);
        x.add(1, 0, 0, 1);
        x.add(2, 0, 0, 2);
        due("prepare", x.prepare(1), 3);
        due("prepare: forced", x.count(1), 3);
        dueTable("prepare", x, 0, 1, 3, 3, 1);
        dueRecord("prepare", x, 3, 6, 1, 1, 0, 0, 0, 0);
        due("prepare: again", x.prepare(1), STATE);
        due("prepare: unknown", x.prepare(3), UNKNOWN);
        due("prepare: unknown", x.prepare(0), UNKNOWN);
        due("prepare: a work without records", begun(1).prepare(1), 1);
        due("prepare: down", down().prepare(7), DOWN);
    }

    // Promise 6
    private static void commit() {
        RestartBook x = begun(2);
        x.add(1, 0, 0, 1);
        x.add(2, 0, 0, 2);
        due("commit", x.commit(1), 3);
        due("commit: records", x.count(0), 4);
        due("commit: forced without the end", x.count(1), 3);
        dueRecord("commit", x, 3, 3, 1, 1, 0, 0, 0, 0);
        dueRecord("commit", x, 4, 5, 1, 3, 0, 0, 0, 0);
        dueTable("commit", x, 0, 2, 1, 2, 2);
        due("commit: gone", x.commit(1), UNKNOWN);
        x.prepare(2);
        due("commit: prepared", x.commit(2), 6);
        dueRecord("commit", x, 6, 3, 2, 5, 0, 0, 0, 0);
        due("commit: word", x.word(0, 0), 3);
        due("commit: empty table", x.table(0, 0), NONE);
        due("commit: a work without records", begun(1).commit(1), 1);
        due("commit: unknown", x.commit(MIN), UNKNOWN);
        due("commit: down", down().commit(7), DOWN);
    }

    // Promise 7
    private static void abort() {
        RestartBook x = begun(2);
        x.add(1, 0, 0, 1);
        x.add(2, 0, 0, 2);
        x.add(1, 0, 1, 3);
        x.back(1, 2);
        x.add(1, 9, 1, 5);
        due("abort", x.abort(1), 2);
        dueRecord("abort", x, 6, 4, 1, 5, 0, 0, 0, 0);
        dueRecord("abort", x, 7, 2, 1, 6, 9, 1, -5, 1);
        dueRecord("abort", x, 8, 2, 1, 7, 0, 0, -1, 0);
        dueRecord("abort", x, 9, 5, 1, 8, 0, 0, 0, 0);
        due("abort: records", x.count(0), 9);
        due("abort: not forced", x.count(1), 0);
        due("abort: words", x.word(0, 0) + x.word(0, 1) + x.word(9, 1), 2);
        dueTable("abort", x, 0, 2, 1, 2, 2);
        due("abort: gone", x.abort(1), UNKNOWN);
        x.prepare(2);
        due("abort: prepared", x.abort(2), 1);
        due("abort: words", x.word(0, 0), 0);
        dueRecord("abort", x, 11, 4, 2, 10, 0, 0, 0, 0);
        dueRecord("abort", x, 12, 2, 2, 11, 0, 0, -2, 0);
        due("abort: a work without records", begun(1).abort(1), 0);
        due("abort: down", down().abort(7), DOWN);
    }

    // Promise 8
    private static void write() {
        RestartBook x = begun(1);
        due("write: clean", x.write(0), 0);
        x.add(1, 0, 0, 1);
        x.add(1, 0, 7, 2);
        x.add(1, 1, 0, 3);
        due("write", x.write(0), 1);
        due("write: forced up to the mark", x.count(1), 2);
        due("write: base", x.page(0, 1), NONE);
        due("write: on the medium", x.page(0, 2), 2);
        due("write: clean again", x.write(0), 0);
        due("write: other pages are as before", x.page(1, 1), 3);
        due("write: nothing forced", x.count(1), 2);
        due("write: last page", x.write(63), 0);
        x.add(1, 0, 0, 4);
        due("write: dirty anew", x.page(0, 1), 4);
        due("write: mark", x.page(0, 0), 4);
        due("write: medium", x.page(0, 2), 2);
        x.force(4);
        due("write: forced already", x.write(1), 1);
        due("write: forcing takes nothing back", x.count(1), 4);
        for (int page : new int[] {-1, 64, MIN, MAX}) {
            due("write: no page", x.write(page), OUTSIDE);
        }
        x.add(1, 0, 0, 8);
        x.loss(0);
        due("write: down", x.write(-1), DOWN);
        due("write: memory as on the medium", x.word(0, 0), 1);
        due("write: memory as on the medium", x.word(0, 7), 2);
        due("write: memory as on the medium", x.word(1, 0), 3);
    }

    // Promise 9
    private static void force() {
        RestartBook x = begun(1);
        due("force: empty", x.force(9), 0);
        for (int i = 0; i < 5; i++) {
            x.add(1, 0, 0, 1);
        }
        due("force", x.force(2), 2);
        due("force: fewer", x.force(1), 2);
        due("force: none", x.force(0), 2);
        due("force: below 0", x.force(-1), OUTSIDE);
        due("force: below 0", x.force(MIN), OUTSIDE);
        due("force: count", x.count(1), 2);
        due("force: last", x.force(5), 5);
        due("force: more than there are", x.force(MAX), 5);
        x.loss(0);
        due("force: down", x.force(-1), DOWN);
    }

    // Promise 10
    private static void point() {
        RestartBook x = begun(1);
        x.add(1, 0, 0, 1);
        due("point", x.point(), 2);
        due("point: records", x.count(0), 3);
        due("point: forced", x.count(1), 3);
        dueRecord("point", x, 2, 7, 0, 0, 0, 0, 0, 0);
        dueRecord("point", x, 3, 8, 0, 0, 0, 0, 0, 0);
        dueTable("point", x, 0, 1, 1, 1, 1);
        due("point: base", x.page(0, 1), 1);
        due("point: next change", x.add(1, 0, 0, 1), 4);
        dueRecord("point: is no record of the work", x, 4, 1, 1, 1, 0, 0, 1, 0);
        for (int i = 2; i <= 100; i++) {
            due("point", x.point(), 2 * i + 1);
        }
        due("point: 101", x.point(), ROOM);
        x.loss(0);
        due("point: down", x.point(), DOWN);
        x.restart(MAX);
        due("point: 100 in all", x.point(), ROOM);
    }

    private static void pointsInRestart() {
        RestartBook x = begun(5);
        x.add(1, 3, 0, 1);
        x.add(2, 4, 0, 2);
        x.write(4);
        x.add(3, 5, 0, 3);
        x.prepare(3);
        x.add(4, 6, 0, 4);
        x.abort(4);
        due("point", x.point(), 9);
        x.add(1, 4, 1, 5);
        x.commit(2);
        due("loss", x.loss(0), 12);
        due("restart: the point begins", x.restart(1), 1);
        due("restart: nothing told yet", x.table(0, 0), NONE);
        due("restart: nothing told yet", x.page(3, 1), NONE);
        x.restart(1);
        dueTable("told", x, 0, 1, 1, 1, 1);
        dueTable("told", x, 1, 2, 1, 2, 2);
        dueTable("told", x, 2, 3, 3, 4, 3);
        dueTable("told: without records", x, 3, 5, 1, 0, 0);
        due("told: no more", x.table(4, 0), NONE);
        due("told: base", x.page(3, 1), 1);
        due("told: written", x.page(4, 1), NONE);
        due("told: base", x.page(5, 1), 3);
        due("told: base", x.page(6, 1), 5);
        x.restart(1);
        dueTable("behind the point", x, 0, 1, 1, 11, 11);
        due("behind the point: base", x.page(4, 1), 11);
        x.restart(1);
        dueTable("behind the point", x, 1, 2, 4, 12, 2);
        due("from the least base on", x.part(), 2);
        due("12 again, 1 ended, 2 undone, 2 ended", x.restart(MAX), 17);
        due("looked through", x.count(2), 4);
        due("again: 1, 3, 5, 7, 11", x.count(3), 5);
        due("passed over: 2", x.count(4), 1);
        due("undone", x.count(5), 2);
        dueRecord("ended", x, 13, 5, 2, 12, 0, 0, 0, 0);
        dueRecord("undone", x, 14, 2, 1, 11, 4, 1, -5, 1);
        dueRecord("undone", x, 15, 2, 1, 14, 3, 0, -1, 0);
        dueRecord("ended", x, 16, 5, 1, 15, 0, 0, 0, 0);
        dueRecord("ended without records", x, 17, 5, 5, 0, 0, 0, 0, 0);
        dueTable("prepared", x, 0, 3, 3, 4, 3);
        due("words", x.word(4, 0), 2);
        due("words", x.word(5, 0), 3);
        due("words", x.word(3, 0) + x.word(4, 1) + x.word(6, 0), 0);

        x = begun(1);
        x.add(1, 0, 0, 1);
        x.add(1, 63, 7, 2);
        x.prepare(1);
        x.point();
        x.loss(0);
        x.restart(2);
        due("told: the first page", x.page(0, 1), 1);
        due("told: the last page", x.page(63, 1), 2);
        due("again", x.restart(99), 5);
        due("again", x.word(0, 0) + x.word(63, 7), 3);
    }

    private static void latestPoint() {
        RestartBook x = begun(3);
        x.add(3, 5, 0, 3);
        x.prepare(3);
        x.add(1, 6, 0, 4);
        due("a point", x.point(), 4);
        x.commit(1);
        x.commit(2);
        x.write(6);
        due("the latest point", x.point(), 10);
        due("loss", x.loss(0), 11);
        due("looked from the latest point on", x.restart(2), 2);
        due("looked from the latest point on", x.part(), 2);
        dueTable("told by the latest point", x, 0, 3, 3, 2, 1);
        due("told by the latest point", x.table(1, 0), NONE);
        due("told by the latest point", x.page(5, 1), 1);
        due("told by the latest point", x.page(6, 1), NONE);
    }

    // Promise 11
    private static void loss() {
        RestartBook x = begun(1);
        due("loss: nothing to do", x.loss(0), 0);
        due("loss: up at once", x.part(), 0);
        due("loss: the table is empty", x.table(0, 0), NONE);
        due("loss: all of nothing", x.loss(MAX), 0);
        x.begin();
        for (int i = 1; i <= 6; i++) {
            due("add", x.add(2, i, 0, i), i);
        }
        x.write(2);
        due("loss: below 0", x.loss(-1), OUTSIDE);
        due("loss: below 0", x.loss(MIN), OUTSIDE);
        due("loss: refused", x.part() + x.count(1), 2);
        due("loss: three are kept", x.loss(3), 5);
        due("loss: records", x.count(0), 5);
        due("loss: forced", x.count(1), 5);
        due("loss: gone", x.record(6, 0), NONE);
        due("loss: kept", x.record(5, 5), 5);
        due("loss: down", x.part(), 1);
        due("loss: no works", x.table(0, 0), NONE);
        for (int page = 0; page < 7; page++) {
            due("loss: no dirty page", x.page(page, 1), NONE);
            due("loss: word", x.word(page, 0), page == 2 ? 2 : 0);
            due("loss: mark", x.page(page, 0), page == 2 ? 2 : 0);
        }
        due("loss: again, while down", x.loss(0), 5);
        due("loss: OUTSIDE while down", x.loss(-1), OUTSIDE);

        RestartBook y = begun(1);
        for (int i = 0; i < 4; i++) {
            y.add(1, 0, 0, 1);
        }
        y.force(1);
        due("loss: more than there are", y.loss(MAX), 4);
        y = begun(1);
        y.add(1, 0, 0, 1);
        y.add(1, 0, 0, 1);
        due("loss: none is forced", y.loss(0), 0);
        due("loss: up at once", y.part(), 0);
        due("loss: the work is gone", y.abort(1), UNKNOWN);
        due("loss: words", y.word(0, 0), 0);
        due("loss: begin", y.begin(), 2);
        due("loss: numbers of records come again", y.add(2, 5, 5, 5), 1);
        dueRecord("loss: written over", y, 1, 1, 2, 0, 5, 5, 5, 0);
    }

    private static void lossesInEveryPart() {
        RestartBook x = begun(3);
        x.add(1, 0, 0, 1);
        x.add(2, 1, 0, 2);
        x.add(3, 2, 0, 4);
        x.commit(2);
        due("loss", x.loss(0), 4);
        for (int done = 0; done <= 4 + 4 + 1 + 4; done++) {
            due("restart(" + done + ")", x.restart(done), done);
            due("part behind " + done, x.part(), done < 4 ? 1 : done < 8 ? 2 : done < 9 ? 3 : done < 13 ? 4 : 0);
            due("records behind " + done, x.count(0), 4 + Math.max(0, done - 8));
            due("forced behind " + done, x.count(1), 4);
            due("loss behind " + done, x.loss(0), 4);
        }
        due("restart", x.restart(9 + 2), 11);
        due("loss: a return is kept", x.loss(2), 6);
        due("looked, again, undone, ended", x.restart(MAX), 6 + 6 + 1 + 2);
        dueRecord("kept: the end of 2", x, 5, 5, 2, 4, 0, 0, 0, 0);
        dueRecord("kept: a return", x, 6, 2, 3, 3, 2, 0, -4, 0);
        dueRecord("the other return", x, 7, 2, 1, 1, 0, 0, -1, 0);
        dueRecord("end", x, 8, 5, 1, 7, 0, 0, 0, 0);
        dueRecord("end", x, 9, 5, 3, 6, 0, 0, 0, 0);
        due("words", x.word(0, 0), 0);
        due("words", x.word(1, 0), 2);
        due("words", x.word(2, 0), 0);
    }

    // Promise 12
    private static void restart() {
        RestartBook x = begun(1);
        x.add(1, 0, 0, 5);
        due("restart: up", x.restart(5), 0);
        due("restart: up, below 0", x.restart(-1), OUTSIDE);
        due("restart: up, nothing is lost", x.word(0, 0), 5);
        x.force(1);
        x.loss(0);
        due("restart: below 0", x.restart(-1), OUTSIDE);
        due("restart: below 0", x.restart(MIN), OUTSIDE);
        due("restart: none", x.restart(0), 0);
        due("restart: none", x.part(), 1);
        due("restart: all", x.restart(MAX), 4);
        due("restart: up", x.part(), 0);
        due("restart: up", x.restart(1), 0);
        due("restart: the work is gone", x.abort(1), UNKNOWN);

        x = down();
        int steps = 0;
        for (int i = 0; i < 9; i++) {
            steps += x.restart(1);
        }
        due("restart: one by one", steps, 4);
    }

    // Promise 13
    private static void part() {
        RestartBook x = down();
        int[] parts = {1, 2, 4, 4, 0, 0};
        for (int i = 0; i < parts.length; i++) {
            due("part behind " + i, x.part(), parts[i]);
            x.restart(1);
        }
        x = begun(1);
        x.commit(1);
        x.loss(0);
        due("part: a record of DONE", x.part(), 1);
        x.restart(1);
        due("part: nothing to do again, but to end", x.part(), 3);
        x.restart(1);
        due("part: up", x.part(), 0);
        x.loss(1);
        x.restart(2);
        due("part: looked through, then up", x.part(), 0);
        due("part: looked through, then up", x.count(2), 3);
        x = begun(1);
        x.point();
        x.loss(0);
        x.restart(1);
        due("part: within the point", x.part(), 1);
        x.restart(1);
        due("part: no pages, none done, one to undo", x.part(), 4);
        x.restart(1);
        due("part: up", x.part(), 0);
        x = begun(1);
        x.add(1, 0, 0, 1);
        x.prepare(1);
        x.loss(0);
        x.restart(3);
        due("part: doing again", x.part(), 2);
        x.restart(1);
        due("part: prepared work is not undone", x.part(), 0);
    }

    /** Promises 12 and 18: which records are done again, which are passed over, which are neither. */
    private static void doingAgain() {
        RestartBook x = begun(1);
        x.add(1, 0, 0, 1);
        x.add(1, 1, 0, 2);
        x.write(0);
        due("point", x.point(), 3);
        x.add(1, 0, 1, 4);
        x.write(0);
        x.add(1, 0, 2, 8);
        x.commit(1);
        due("loss", x.loss(0), 7);
        due("looking", x.restart(5), 5);
        due("base told", x.page(1, 1), 2);
        due("base behind the point", x.page(0, 1), 5);
        due("part", x.part(), 2);
        due("record 2", x.restart(1), 1);
        due("again", x.word(1, 0), 2);
        due("mark", x.page(1, 0), 2);
        due("again", x.count(3), 1);
        x.restart(2);
        due("the point is neither", x.count(3) + x.count(4), 1);
        x.restart(1);
        due("passed over: on the medium", x.count(4), 1);
        due("mark", x.page(0, 0), 5);
        x.restart(1);
        due("again", x.count(3), 2);
        due("mark", x.page(0, 0), 6);
        due("base stays", x.page(0, 1), 5);
        x.restart(MAX);
        due("words", x.word(0, 0) + x.word(0, 1) + x.word(0, 2), 13);
        due("done is neither", x.count(3) + x.count(4), 3);
        due("dirty behind the restart", x.write(0), 1);
        due("medium", x.page(0, 2), 6);

        x = begun(1);
        x.add(1, 0, 0, 1);
        x.add(1, 1, 0, 2);
        x.write(0);
        x.point();
        x.force(9);
        x.loss(0);
        x.restart(2);
        due("least base", x.restart(1), 1);
        due("record 1 is before the least base", x.count(4), 0);
        due("record 2 is done again", x.count(3), 1);

        x = begun(2);
        x.add(1, 7, 0, 1);
        x.add(2, 8, 0, 2);
        x.write(8);
        x.add(1, 7, 0, 3);
        x.back(1, 1);
        x.point();
        x.loss(0);
        x.restart(2 + 6);
        due("returns are done again", x.count(3), 3);
        due("a page that is not dirty is passed over", x.count(4), 1);
        due("returns are done again", x.word(7, 0), 1);
        due("returns are done again", x.page(7, 0), 4);
    }

    /** Promise 12: part 3 takes works by numbers, whatever the order of their records. */
    private static void ending() {
        RestartBook x = begun(3);
        x.add(3, 0, 0, 1);
        x.commit(3);
        x.loss(0);
        due("ending", x.restart(2 + 2), 4);
        due("ending", x.part(), 3);
        dueTable("ending", x, 0, 3, 4, 2, 1);
        due("ending", x.restart(9), 1);
        dueRecord("ending", x, 3, 5, 3, 2, 0, 0, 0, 0);
        due("ending: not forced", x.count(1), 2);
        due("ending: gone", x.table(0, 0), NONE);
    }

    /** Promise 12: part 4 undoes the greatest next record of all, and ends works by numbers behind all. */
    private static void undoing() {
        RestartBook x = begun(4);
        x.add(4, 0, 0, 1);
        x.add(2, 1, 0, 2);
        x.add(4, 2, 0, 4);
        x.add(3, 3, 0, 8);
        x.add(2, 4, 0, 16);
        x.back(3, 0);
        x.force(6);
        x.loss(0);
        x.restart(12);
        due("undoing", x.part(), 4);
        dueTable("undoing", x, 0, 2, 1, 5, 5);
        dueTable("undoing", x, 1, 3, 1, 6, 0);
        dueTable("undoing", x, 2, 4, 1, 3, 3);
        due("work 1 has no record", x.table(3, 0), NONE);
        due("undoing", x.restart(2), 2);
        dueTable("undoing", x, 0, 2, 1, 7, 2);
        dueTable("undoing", x, 2, 4, 1, 8, 1);
        due("undoing", x.restart(99), 5);
        dueRecord("undoing", x, 7, 2, 2, 5, 4, 0, -16, 2);
        dueRecord("undoing", x, 8, 2, 4, 3, 2, 0, -4, 1);
        dueRecord("undoing", x, 9, 2, 2, 7, 1, 0, -2, 0);
        dueRecord("undoing", x, 10, 2, 4, 8, 0, 0, -1, 0);
        dueRecord("undoing", x, 11, 5, 2, 9, 0, 0, 0, 0);
        dueRecord("undoing", x, 12, 5, 3, 6, 0, 0, 0, 0);
        dueRecord("undoing", x, 13, 5, 4, 10, 0, 0, 0, 0);
        due("undone", x.count(5), 4);
        due("up", x.part(), 0);

        x = begun(2);
        x.add(1, 0, 0, 1);
        x.add(1, 0, 1, 2);
        x.abort(1);
        due("loss: given up, half undone", x.loss(4), 4);
        x.restart(4);
        dueTable("given up", x, 0, 1, 2, 4, 1);
        due("again, undone, ended", x.restart(99), 4 + 1 + 1);
        dueRecord("undone", x, 5, 2, 1, 4, 0, 0, -1, 0);
        dueRecord("ended", x, 6, 5, 1, 5, 0, 0, 0, 0);
        due("words", x.word(0, 0) + x.word(0, 1), 0);
    }

    /** Promises 5 to 7 and 12: a prepared work outlives a restart, and is done or given up then. */
    private static void preparedOutlives() {
        for (int way = 0; way < 2; way++) {
            RestartBook x = begun(2);
            x.add(1, 0, 0, 7);
            x.add(2, 0, 0, 100);
            x.prepare(1);
            x.loss(0);
            due("all steps", x.restart(99), 3 + 3 + 2);
            dueTable("prepared", x, 0, 1, 3, 3, 1);
            due("prepared", x.word(0, 0), 7);
            due("prepare", x.prepare(1), STATE);
            due(way == 0 ? "commit" : "abort", way == 0 ? x.commit(1) : x.abort(1), way == 0 ? 6 : 1);
            due("word", x.word(0, 0), way == 0 ? 7 : 0);
            x.loss(99);
            x.restart(99);
            due("word behind another loss", x.word(0, 0), way == 0 ? 7 : 0);
            due("table", x.table(0, 0), NONE);
        }
    }

    // Promise 14
    private static void word() {
        RestartBook x = begun(1);
        x.add(1, 0, 0, 1);
        x.add(1, 0, 7, 2);
        x.add(1, 63, 0, 3);
        x.add(1, 63, 7, 4);
        due("word", x.word(0, 0), 1);
        due("word", x.word(0, 7), 2);
        due("word", x.word(63, 0), 3);
        due("word", x.word(63, 7), 4);
        for (int bad : new int[] {-1, 64, MIN, MAX}) {
            due("word: no page", x.word(bad, 0), 0);
        }
        x.add(1, 1, 0, 9);
        for (int bad : new int[] {-1, 8, MIN, MAX}) {
            due("word: no word", x.word(0, bad), 0);
            due("word: no word", x.word(1, bad), 0);
        }
        due("word: while down", down().word(0, 0), 0);
    }

    // Promise 15
    private static void page() {
        RestartBook x = begun(1);
        x.add(1, 0, 0, 1);
        x.add(1, 63, 0, 1);
        x.write(63);
        x.add(1, 63, 0, 1);
        x.add(1, 63, 0, 1);
        due("page: mark", x.page(0, 0), 1);
        due("page: base", x.page(0, 1), 1);
        due("page: medium", x.page(0, 2), 0);
        due("page: mark", x.page(63, 0), 4);
        due("page: base", x.page(63, 1), 3);
        due("page: medium", x.page(63, 2), 2);
        due("page: clean", x.page(5, 1), NONE);
        for (int bad : new int[] {-1, 64, MIN, MAX}) {
            due("page: none such", x.page(bad, 0), OUTSIDE);
        }
        for (int bad : new int[] {-1, 3, MIN, MAX}) {
            due("page: no such question", x.page(0, bad), OUTSIDE);
        }
        x = down();
        due("page: while down", x.page(0, 1), NONE);
        x.restart(1);
        due("page: while down", x.page(0, 1), 1);
        due("page: while down", x.page(0, 0), 0);
        due("page: while down", x.page(64, 0), OUTSIDE);
    }

    // Promise 16
    private static void table() {
        RestartBook x = begun(4);
        x.add(3, 0, 0, 1);
        x.prepare(3);
        x.commit(1);
        dueTable("table", x, 0, 2, 1, 0, 0);
        dueTable("table", x, 1, 3, 3, 2, 1);
        dueTable("table", x, 2, 4, 1, 0, 0);
        for (int bad : new int[] {-1, 3, 16, MIN, MAX}) {
            due("table: none such", x.table(bad, 0), NONE);
        }
        for (int bad : new int[] {-1, 4, MIN, MAX}) {
            due("table: no such question", x.table(0, bad), NONE);
        }
        x = begun(3);
        x.add(3, 0, 0, 1);
        x.add(1, 0, 0, 1);
        x.add(2, 0, 0, 1);
        x.force(3);
        x.loss(0);
        x.restart(1);
        dueTable("table: in the order of the log", x, 0, 3, 1, 1, 1);
        x.restart(2);
        dueTable("table: by numbers", x, 0, 1, 1, 2, 2);
        dueTable("table: by numbers", x, 1, 2, 1, 3, 3);
        dueTable("table: by numbers", x, 2, 3, 1, 1, 1);
    }

    // Promise 17
    private static void record() {
        RestartBook x = begun(1);
        x.add(1, 2, 3, 4);
        x.back(1, 0);
        x.point();
        x.commit(1);
        dueRecord("record", x, 1, 1, 1, 0, 2, 3, 4, 0);
        dueRecord("record", x, 2, 2, 1, 1, 2, 3, -4, 0);
        dueRecord("record", x, 3, 7, 0, 0, 0, 0, 0, 0);
        dueRecord("record", x, 4, 8, 0, 0, 0, 0, 0, 0);
        dueRecord("record", x, 5, 3, 1, 2, 0, 0, 0, 0);
        dueRecord("record", x, 6, 5, 1, 5, 0, 0, 0, 0);
        for (int bad : new int[] {0, -1, 7, 128, 129, MIN, MAX}) {
            due("record: none such", x.record(bad, 0), NONE);
        }
        for (int bad : new int[] {-1, 7, MIN, MAX}) {
            due("record: no such question", x.record(1, bad), NONE);
        }
        x = down();
        dueRecord("record: while down", x, 1, 1, 1, 0, 0, 0, 5, 0);
        x = begun(1);
        for (int i = 1; i <= 450; i++) {
            due("a long log", x.add(1, i % 64, i % 8, i), i);
        }
        due("a long log", x.abort(1), 450);
        dueRecord("a long log", x, 129, 1, 1, 128, 1, 1, 129, 0);
        dueRecord("a long log", x, 451, 4, 1, 450, 0, 0, 0, 0);
        dueRecord("a long log", x, 452, 2, 1, 451, 450 % 64, 450 % 8, -450, 449);
        dueRecord("a long log", x, 902, 5, 1, 901, 0, 0, 0, 0);
    }

    // Promise 18
    private static void count() {
        RestartBook x = begun(1);
        x.add(1, 0, 0, 1);
        x.add(1, 0, 0, 2);
        x.add(1, 1, 0, 2);
        x.write(0);
        due("count: records", x.count(0), 3);
        due("count: forced", x.count(1), 2);
        for (int round = 1; round <= 3; round++) {
            due("loss", x.loss(0), 2);
            due("steps", x.restart(99), 2 + 2 + 2 + 1);
            due("count: looked through", x.count(2), 2 * round);
            due("count: done again", x.count(3), 0);
            due("count: passed over", x.count(4), 2 * round);
            due("count: undone", x.count(5), 2 * round);
            due("count: records", x.count(0), 5);
            due("count: forced", x.count(1), 2);
        }
        for (int bad : new int[] {-1, 6, MIN, MAX}) {
            due("count: no such question", x.count(bad), OUTSIDE);
        }
        x = down();
        due("count: while down", x.count(0), 1);
        due("count: while down", x.count(6), OUTSIDE);
        x.restart(2);
        due("count: while down", x.count(2) * 10 + x.count(3), 11);
    }
}
