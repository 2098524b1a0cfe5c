import java.util.ArrayList;
import java.util.List;
import java.util.Map;
import java.util.Random;
import java.util.TreeMap;

/**
 * Chance runs of fixed seeds: every answer is held against a second writing of the document, which follows its words
 * by search where the program keeps books; and laws that follow from the log alone must hold whenever a book is up.
 */
public final class RestartBookModel {
    private static final int NONE = -1, UNKNOWN = -101, OUTSIDE = -102, STATE = -103, ROOM = -104, DOWN = -105;
    private static final int CALLS = 512;

    private static int wrong = 0;

    private static final class Entry {
        int kind, work, before, page, word, much, goesOn;
        /** Of a return: the change that it undoes. */
        int undoes;
        /** Of a point's end: what it tells. */
        TreeMap<Integer, int[]> works;
        TreeMap<Integer, Integer> dirty;
    }

    /** The document once more, without regard to cost. */
    private static final class Model {
        List<Entry> log = new ArrayList<>();
        int forced, given, points, part, at;
        int[][] memory = new int[64][9];
        int[][] medium = new int[64][9];
        /** A work's state, last and next. */
        TreeMap<Integer, int[]> works = new TreeMap<>();
        TreeMap<Integer, Integer> dirty = new TreeMap<>();
        int[] counts = new int[6];

        Entry entry(int n) {
            return log.get(n - 1);
        }

        Entry put(int kind, int work) {
            Entry e = new Entry();
            e.kind = kind;
            e.work = work;
            if (work != 0) {
                e.before = works.get(work)[1];
                works.get(work)[1] = log.size() + 1;
            }
            log.add(e);
            return e;
        }

        void apply(int n) {
            Entry e = entry(n);
            memory[e.page][e.word] += e.much;
            memory[e.page][8] = n;
        }

        void end(int work) {
            put(5, work);
            works.remove(work);
        }

        boolean isUndone(int change) {
            for (Entry e : log) {
                if (e.kind == 2 && e.undoes == change) {
                    return true;
                }
            }
            return false;
        }

        int lastOpenChangeBefore(int work, int change) {
            for (int n = change - 1; n >= 1; n--) {
                if (entry(n).kind == 1 && entry(n).work == work && !isUndone(n)) {
                    return n;
                }
            }
            return 0;
        }

        void undoOne(int work) {
            int change = works.get(work)[2];
            Entry old = entry(change);
            int goesOn = lastOpenChangeBefore(work, change);
            Entry e = put(2, work);
            e.page = old.page;
            e.word = old.word;
            e.much = 0 - old.much;
            e.goesOn = goesOn;
            e.undoes = change;
            works.get(work)[2] = goesOn;
            dirty.putIfAbsent(e.page, log.size());
            apply(log.size());
        }

        int undo(int work, int to) {
            int returns = 0;
            while (works.get(work)[2] > to) {
                undoOne(work);
                returns++;
            }
            return returns;
        }

        int begin() {
            if (part != 0) return DOWN;
            if (given == 200 || works.size() == 16) return ROOM;
            works.put(++given, new int[] {1, 0, 0});
            return given;
        }

        int add(int work, int page, int word, int much) {
            if (part != 0) return DOWN;
            if (!works.containsKey(work)) return UNKNOWN;
            if (page < 0 || page > 63 || word < 0 || word > 7) return OUTSIDE;
            if (works.get(work)[0] != 1) return STATE;
            Entry e = put(1, work);
            e.page = page;
            e.word = word;
            e.much = much;
            works.get(work)[2] = log.size();
            dirty.putIfAbsent(page, log.size());
            apply(log.size());
            return log.size();
        }

        int back(int work, int to) {
            if (part != 0) return DOWN;
            if (!works.containsKey(work)) return UNKNOWN;
            if (to < 0 || to > works.get(work)[1]) return OUTSIDE;
            if (works.get(work)[0] != 1) return STATE;
            return undo(work, to);
        }

        int prepare(int work) {
            if (part != 0) return DOWN;
            if (!works.containsKey(work)) return UNKNOWN;
            if (works.get(work)[0] != 1) return STATE;
            put(6, work);
            works.get(work)[0] = 3;
            forced = log.size();
            return forced;
        }

        int commit(int work) {
            if (part != 0) return DOWN;
            if (!works.containsKey(work)) return UNKNOWN;
            put(3, work);
            forced = log.size();
            end(work);
            return forced;
        }

        int abort(int work) {
            if (part != 0) return DOWN;
            if (!works.containsKey(work)) return UNKNOWN;
            put(4, work);
            int returns = undo(work, 0);
            end(work);
            return returns;
        }

        int write(int page) {
            if (part != 0) return DOWN;
            if (page < 0 || page > 63) return OUTSIDE;
            if (dirty.remove(page) == null) return 0;
            forced = Math.max(forced, memory[page][8]);
            medium[page] = memory[page].clone();
            return 1;
        }

        int force(int n) {
            if (part != 0) return DOWN;
            if (n < 0) return OUTSIDE;
            forced = Math.max(forced, Math.min(n, log.size()));
            return forced;
        }

        int point() {
            if (part != 0) return DOWN;
            if (points == 100) return ROOM;
            points++;
            put(7, 0);
            Entry e = put(8, 0);
            e.works = copyOf(works);
            e.dirty = new TreeMap<>(dirty);
            forced = log.size();
            return forced - 1;
        }

        static TreeMap<Integer, int[]> copyOf(TreeMap<Integer, int[]> works) {
            TreeMap<Integer, int[]> copy = new TreeMap<>();
            for (Map.Entry<Integer, int[]> w : works.entrySet()) {
                copy.put(w.getKey(), w.getValue().clone());
            }
            return copy;
        }

        int loss(int keep) {
            if (keep < 0) return OUTSIDE;
            while (log.size() - (long) forced > keep) {
                log.remove(log.size() - 1);
            }
            forced = log.size();
            works.clear();
            dirty.clear();
            for (int p = 0; p < 64; p++) {
                memory[p] = medium[p].clone();
            }
            at = 1;
            for (int n = 1; n <= forced; n++) {
                if (entry(n).kind == 8) {
                    at = n - 1;
                }
            }
            part = 1;
            settle();
            return forced;
        }

        void settle() {
            if (part == 1 && at > log.size()) {
                part = 2;
                at = log.size() + 1;
                for (int base : dirty.values()) {
                    at = Math.min(at, base);
                }
            }
            if (part == 2 && at > log.size()) part = 3;
            if (part == 3 && doneWork() == 0) part = 4;
            if (part == 4 && undoWork() == 0) part = 0;
        }

        int doneWork() {
            for (int work : works.keySet()) {
                if (works.get(work)[0] == 4) return work;
            }
            return 0;
        }

        int undoWork() {
            int best = 0;
            for (int work : works.descendingKeySet()) {
                int[] w = works.get(work);
                if (w[0] <= 2 && (best == 0 || w[2] >= works.get(best)[2])) best = work;
            }
            return best;
        }

        void look(int n) {
            counts[2]++;
            Entry e = entry(n);
            if (e.kind == 8) {
                for (Map.Entry<Integer, int[]> w : copyOf(e.works).entrySet()) works.putIfAbsent(w.getKey(), w.getValue());
                for (Map.Entry<Integer, Integer> d : e.dirty.entrySet()) dirty.putIfAbsent(d.getKey(), d.getValue());
            }
            if (e.work == 0) return;
            int[] w = works.computeIfAbsent(e.work, k -> new int[] {1, 0, 0});
            w[1] = n;
            if (e.kind == 1) w[2] = n;
            if (e.kind == 2) w[2] = e.goesOn;
            if (e.kind == 3) w[0] = 4;
            if (e.kind == 4) w[0] = 2;
            if (e.kind == 6) w[0] = 3;
            if (e.kind == 5) works.remove(e.work);
            if (e.kind <= 2) dirty.putIfAbsent(e.page, n);
        }

        void redo(int n) {
            Entry e = entry(n);
            if (e.kind > 2) return;
            boolean again = dirty.containsKey(e.page) && dirty.get(e.page) <= n && memory[e.page][8] < n;
            counts[again ? 3 : 4]++;
            if (again) apply(n);
        }

        int restart(int n) {
            if (n < 0) return OUTSIDE;
            int steps = 0;
            for (; steps < n && part != 0; steps++) {
                if (part == 1) look(at++);
                else if (part == 2) redo(at++);
                else if (part == 3) end(doneWork());
                else {
                    int work = undoWork();
                    if (works.get(work)[2] == 0) end(work);
                    else {
                        undoOne(work);
                        counts[5]++;
                    }
                }
                settle();
            }
            return steps;
        }

        int table(int i, int what) {
            if (i < 0 || i >= works.size() || what < 0 || what > 3) return NONE;
            int work = new ArrayList<>(works.keySet()).get(i);
            return what == 0 ? work : works.get(work)[what - 1];
        }

        int record(int n, int what) {
            if (n < 1 || n > log.size() || what < 0 || what > 6) return NONE;
            Entry e = entry(n);
            return new int[] {e.kind, e.work, e.before, e.page, e.word, e.much, e.goesOn}[what];
        }

        int count(int what) {
            if (what < 0 || what > 5) return OUTSIDE;
            return what == 0 ? log.size() : what == 1 ? forced : counts[what];
        }

        int word(int page, int word) {
            return page < 0 || page > 63 || word < 0 || word > 7 ? 0 : memory[page][word];
        }

        int page(int page, int what) {
            if (page < 0 || page > 63 || what < 0 || what > 2) return OUTSIDE;
            return what == 0 ? memory[page][8] : what == 1 ? dirty.getOrDefault(page, NONE) : medium[page][8];
        }
    }

    private final int seed;
    private final Random chance;
    private final RestartBook book = new RestartBook();
    private final Model model = new Model();
    private final int pages;
    private final int works;
    private final int lossIn;
    private String call = "";

    private RestartBookModel(int seed) {
        this.seed = seed;
        this.chance = new Random(seed);
        this.pages = seed % 3 == 0 ? 64 : 1 + seed % 5;
        this.works = 2 + seed % 14;
        this.lossIn = 5 + seed % 60;
    }

    private void due(String what, int got, int want) {
        if (got != want && wrong++ < 20) {
            System.out.println("seed " + seed + ", behind " + call + ": " + what + " answered " + got + ", due is " + want);
        }
    }

    private int oddly(int usual) {
        int dice = chance.nextInt(60);
        return dice == 0 ? -1 : dice == 1 ? Integer.MIN_VALUE : dice == 2 ? Integer.MAX_VALUE : dice == 3 ? usual + 64 : usual;
    }

    private int someWork() {
        int size = model.works.size();
        return oddly(size == 0 ? chance.nextInt(5) : model.table(chance.nextInt(size), 0));
    }

    private int someMuch() {
        return chance.nextInt(4) == 0 ? chance.nextInt() : chance.nextInt(100) - 50;
    }

    private void oneCall(int i) {
        int work = someWork();
        int page = oddly(chance.nextInt(pages));
        int n = oddly(chance.nextInt(model.log.size() + 2));
        int got;
        int want;
        if (model.part != 0 && chance.nextInt(3) > 0) {
            n = chance.nextInt(6) == 0 ? Integer.MAX_VALUE : oddly(chance.nextInt(30));
            call = i + " restart(" + n + ")";
            got = book.restart(n);
            want = model.restart(n);
        } else if (chance.nextInt(lossIn) == 0) {
            n = oddly(chance.nextInt(1 + chance.nextInt(40)));
            call = i + " loss(" + n + ")";
            got = book.loss(n);
            want = model.loss(n);
        } else {
            int kind = chance.nextInt(40);
            if (kind < 7 && model.works.size() >= works) {
                kind = 12;
            }
            if (kind < 7) {
                call = i + " begin()";
                got = book.begin();
                want = model.begin();
            } else if (kind < 25) {
                int word = oddly(chance.nextInt(8));
                int much = someMuch();
                call = i + " add(" + work + ", " + page + ", " + word + ", " + much + ")";
                got = book.add(work, page, word, much);
                want = model.add(work, page, word, much);
            } else if (kind < 28) {
                call = i + " back(" + work + ", " + n + ")";
                got = book.back(work, n);
                want = model.back(work, n);
            } else if (kind < 30) {
                call = i + " prepare(" + work + ")";
                got = book.prepare(work);
                want = model.prepare(work);
            } else if (kind < 32) {
                call = i + " commit(" + work + ")";
                got = book.commit(work);
                want = model.commit(work);
            } else if (kind < 34) {
                call = i + " abort(" + work + ")";
                got = book.abort(work);
                want = model.abort(work);
            } else if (kind < 37) {
                call = i + " write(" + page + ")";
                got = book.write(page);
                want = model.write(page);
            } else if (kind < 38) {
                call = i + " force(" + n + ")";
                got = book.force(n);
                want = model.force(n);
            } else if (kind < 39) {
                call = i + " point()";
                got = book.point();
                want = model.point();
            } else {
                call = i + " restart(" + page + ")";
                got = book.restart(page);
                want = model.restart(page);
            }
        }
        due(call, got, want);
    }

    /** What is asked does not change the book, so it may be asked all at once. */
    private void compareAll() {
        due("part()", book.part(), model.part);
        for (int what = -1; what <= 6; what++) {
            due("count(" + what + ")", book.count(what), model.count(what));
        }
        for (int i = -1; i <= 17; i++) {
            for (int what = -1; what <= 4; what++) {
                due("table(" + i + ", " + what + ")", book.table(i, what), model.table(i, what));
            }
        }
        for (int page = -1; page <= 64; page++) {
            for (int what = -1; what <= 3; what++) {
                due("page(" + page + ", " + what + ")", book.page(page, what), model.page(page, what));
            }
            for (int word = -1; word <= 8; word++) {
                due("word(" + page + ", " + word + ")", book.word(page, word), model.word(page, word));
            }
        }
        for (int n = -1; n <= model.log.size() + 3; n++) {
            for (int what = -1; what <= 7; what++) {
                due("record(" + n + ", " + what + ")", book.record(n, what), model.record(n, what));
            }
        }
    }

    /** Whenever a book is up, its pages are the sum of its log, and only works in the table are open in it. */
    private void checkLaws() {
        if (book.part() != 0) {
            return;
        }
        int[][] sums = new int[64][8];
        int[] marks = new int[64];
        TreeMap<Integer, Integer> open = new TreeMap<>();
        for (int n = 1; n <= book.count(0); n++) {
            int kind = book.record(n, 0);
            int work = book.record(n, 1);
            if (kind <= 2) {
                sums[book.record(n, 3)][book.record(n, 4)] += book.record(n, 5);
                marks[book.record(n, 3)] = n;
            }
            if (kind == 5) {
                open.remove(work);
            } else if (work != 0) {
                open.put(work, n);
            }
        }
        for (int page = 0; page < 64; page++) {
            due("law: mark of page " + page, book.page(page, 0), marks[page]);
            for (int word = 0; word < 8; word++) {
                due("law: word " + word + " of page " + page, book.word(page, word), sums[page][word]);
            }
        }
        for (int i = 0; i < 16; i++) {
            int work = book.table(i, 0);
            if (work != NONE) {
                Integer last = open.remove(work);
                due("law: last of " + work, book.table(i, 2), last == null ? 0 : last);
            }
        }
        due("law: open works that are not in the table", open.size(), 0);
    }

    private void run() {
        for (int i = 1; i <= CALLS; i++) {
            oneCall(i);
            if (i % 16 == seed % 16 || i == CALLS) {
                compareAll();
            }
            if (i % 8 == 0) {
                checkLaws();
            }
        }
        call = "the end";
        due("loss(0)", book.loss(0), model.loss(0));
        due("restart", book.restart(Integer.MAX_VALUE), model.restart(Integer.MAX_VALUE));
        compareAll();
        checkLaws();
    }

    /** Behind the promised calls answers are free, but a call still ends without a throw. */
    private static void runFar() {
        Random chance = new Random(7);
        RestartBook x = new RestartBook();
        int[] odd = {Integer.MIN_VALUE, -1, 0, 1, 7, 8, 63, 64, 200, 201, 5000, Integer.MAX_VALUE};
        for (int i = 0; i < 60000; i++) {
            int a = chance.nextInt(3) == 0 ? odd[chance.nextInt(odd.length)] : chance.nextInt(201);
            int b = chance.nextInt(3) == 0 ? odd[chance.nextInt(odd.length)] : chance.nextInt(64);
            int c = chance.nextInt(3) == 0 ? odd[chance.nextInt(odd.length)] : chance.nextInt(8);
            int kind = chance.nextInt(400);
            if (kind < 6) x.begin();
            else if (kind < 300) x.add(x.table(chance.nextInt(16), 0), b, c, i);
            else if (kind < 310) x.back(a, b);
            else if (kind < 312) x.prepare(a);
            else if (kind < 314) x.commit(a);
            else if (kind < 316) x.abort(a);
            else if (kind < 340) x.write(b);
            else if (kind < 345) x.force(a);
            else if (kind < 347) x.point();
            else if (kind < 349) x.loss(a);
            else if (kind < 360) x.restart(a);
            else if (kind < 370) x.word(b, c);
            else if (kind < 380) x.page(b, c);
            else if (kind < 385) x.table(c, b);
            else if (kind < 395) x.record(a, c);
            else x.count(c);
        }
    }

    public static void main(String[] args) {
        for (int seed = 1; seed <= 400; seed++) {
            new RestartBookModel(seed).run();
        }
        runFar();
        System.out.println(wrong == 0 ? "all answers are as due" : wrong + " answers are not as due");
        if (wrong != 0) {
            System.exit(1);
        }
    }
}
