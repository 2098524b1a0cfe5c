import java.util.ArrayList;
import java.util.Arrays;
import java.util.List;
import java.util.Map;
import java.util.Random;
import java.util.TreeMap;

/**
 * Chance runs of fixed seeds: every answer is held against a second writing of the document, which follows its words
 * by search where the program keeps books; and laws that follow from the log alone must hold whenever a book is up.
 * A book answers 512 calls alone: for more questions the calls are made once more on new books.
 */
public final class RestartBookModel {
    private static final int NONE = -1, UNKNOWN = -101, OUTSIDE = -102, STATE = -103, ROOM = -104, DOWN = -105;
    private static final int MOST_CALLS = 512;
    /** Short enough for some 250 questions behind the calls, to one book. */
    private static final int CALLS_OF_A_SHORT_RUN = 260;

    private static int wrong = 0;

    private static final class Entry {
        int kind, work, before, page, word, much, goesOn;
        /** Of a return: the change that it undoes. */
        int undoes;
        /** Of a point's end: what it tells. */
        TreeMap<Integer, int[]> works;
        TreeMap<Integer, Integer> dirty;
    }

    /** The document once more, without regard to cost. */
    private static final class Model {
        List<Entry> log = new ArrayList<>();
        int forced, given, points, part, at;
        int[][] memory = new int[64][9];
        int[][] medium = new int[64][9];
        /** A work's state, last and next. */
        TreeMap<Integer, int[]> works = new TreeMap<>();
        TreeMap<Integer, Integer> dirty = new TreeMap<>();
        int[] counts = new int[6];

        Entry entry(int n) {
            return log.get(n - 1);
        }

        Entry put(int kind, int work) {
            Entry e = new Entry();
            e.kind = kind;
            e.work = work;
            if (work != 0) {
                e.before = works.get(work)[1];
                works.get(work)[1] = log.size() + 1;
            }
            log.add(e);
            return e;
        }

        void apply(int n) {
            Entry e = entry(n);
            memory[e.page][e.word] += e.much;
            memory[e.page][8] = n;
        }

        void end(int work) {
            put(5, work);
            works.remove(work);
        }

        boolean isUndone(int change) {
            for (Entry e : log) {
                if (e.kind == 2 && e.undoes == change) {
                    return true;
                }
            }
            return false;
        }

        int lastOpenChangeBefore(int work, int change) {
            for (int n = change - 1; n >= 1; n--) {
                if (entry(n).kind == 1 && entry(n).work == work && !isUndone(n)) {
                    return n;
                }
            }
            return 0;
        }

        void undoOne(int work) {
            int change = works.get(work)[2];
            Entry old = entry(change);
            int goesOn = lastOpenChangeBefore(work, change);
            Entry e = put(2, work);
            e.page = old.page;
            e.word = old.word;
            e.much = 0 - old.much;
            e.goesOn = goesOn;
            e.undoes = change;
            works.get(work)[2] = goesOn;
            dirty.putIfAbsent(e.page, log.size());
            apply(log.size());
        }

        int undo(int work, int to) {
            int returns = 0;
            while (works.get(work)[2] > to) {
                undoOne(work);
                returns++;
            }
            return returns;
        }

        int begin() {
            if (part != 0) return DOWN;
            if (given == 200 || works.size() == 16) return ROOM;
            works.put(++given, new int[] {1, 0, 0});
            return given;
        }

        int add(int work, int page, int word, int much) {
            if (part != 0) return DOWN;
            if (!works.containsKey(work)) return UNKNOWN;
            if (page < 0 || page > 63 || word < 0 || word > 7) return OUTSIDE;
            if (works.get(work)[0] != 1) return STATE;
            Entry e = put(1, work);
            e.page = page;
            e.word = word;
            e.much = much;
            works.get(work)[2] = log.size();
            dirty.putIfAbsent(page, log.size());
            apply(log.size());
            return log.size();
        }

        int back(int work, int to) {
            if (part != 0) return DOWN;
            if (!works.containsKey(work)) return UNKNOWN;
            if (to < 0 || to > works.get(work)[1]) return OUTSIDE;
            if (works.get(work)[0] != 1) return STATE;
            return undo(work, to);
        }

        int prepare(int work) {
            if (part != 0) return DOWN;
            if (!works.containsKey(work)) return UNKNOWN;
            if (works.get(work)[0] != 1) return STATE;
            put(6, work);
            works.get(work)[0] = 3;
            forced = log.size();
            return forced;
        }

        int commit(int work) {
            if (part != 0) return DOWN;
            if (!works.containsKey(work)) return UNKNOWN;
            put(3, work);
            forced = log.size();
            end(work);
            return forced;
        }

        int abort(int work) {
            if (part != 0) return DOWN;
            if (!works.containsKey(work)) return UNKNOWN;
            put(4, work);
            int returns = undo(work, 0);
            end(work);
            return returns;
        }

        int write(int page) {
            if (part != 0) return DOWN;
            if (page < 0 || page > 63) return OUTSIDE;
            if (dirty.remove(page) == null) return 0;
            forced = Math.max(forced, memory[page][8]);
            medium[page] = memory[page].clone();
            return 1;
        }

        int force(int n) {
            if (part != 0) return DOWN;
            if (n < 0) return OUTSIDE;
            forced = Math.max(forced, Math.min(n, log.size()));
            return forced;
        }

        int point() {
            if (part != 0) return DOWN;
            if (points == 100) return ROOM;
            points++;
            put(7, 0);
            Entry e = put(8, 0);
            e.works = copyOf(works);
            e.dirty = new TreeMap<>(dirty);
            forced = log.size();
            return forced - 1;
        }

        static TreeMap<Integer, int[]> copyOf(TreeMap<Integer, int[]> works) {
            TreeMap<Integer, int[]> copy = new TreeMap<>();
            for (Map.Entry<Integer, int[]> w : works.entrySet()) {
                copy.put(w.getKey(), w.getValue().clone());
            }
            return copy;
        }

        int loss(int keep) {
            if (keep < 0) return OUTSIDE;
            while (log.size() - (long) forced > keep) {
                log.remove(log.size() - 1);
            }
            forced = log.size();
            works.clear();
            dirty.clear();
            for (int p = 0; p < 64; p++) {
                memory[p] = medium[p].clone();
            }
            at = 1;
            for (int n = 1; n <= forced; n++) {
                if (entry(n).kind == 8) {
                    at = n - 1;
                }
            }
            part = 1;
            settle();
            return forced;
        }

        void settle() {
            if (part == 1 && at > log.size()) {
                part = 2;
                at = log.size() + 1;
                for (int base : dirty.values()) {
                    at = Math.min(at, base);
                }
            }
            if (part == 2 && at > log.size()) part = 3;
            if (part == 3 && doneWork() == 0) part = 4;
            if (part == 4 && undoWork() == 0) part = 0;
        }

        int doneWork() {
            for (int work : works.keySet()) {
                if (works.get(work)[0] == 4) return work;
            }
            return 0;
        }

        int undoWork() {
            int best = 0;
            for (int work : works.descendingKeySet()) {
                int[] w = works.get(work);
                if (w[0] <= 2 && (best == 0 || w[2] >= works.get(best)[2])) best = work;
            }
            return best;
        }

        void look(int n) {
            counts[2]++;
            Entry e = entry(n);
            if (e.kind == 8) {
                for (Map.Entry<Integer, int[]> w : copyOf(e.works).entrySet()) works.putIfAbsent(w.getKey(), w.getValue());
                for (Map.Entry<Integer, Integer> d : e.dirty.entrySet()) dirty.putIfAbsent(d.getKey(), d.getValue());
            }
            if (e.work == 0) return;
            int[] w = works.computeIfAbsent(e.work, k -> new int[] {1, 0, 0});
            w[1] = n;
            if (e.kind == 1) w[2] = n;
            if (e.kind == 2) w[2] = e.goesOn;
            if (e.kind == 3) w[0] = 4;
            if (e.kind == 4) w[0] = 2;
            if (e.kind == 6) w[0] = 3;
            if (e.kind == 5) works.remove(e.work);
            if (e.kind <= 2) dirty.putIfAbsent(e.page, n);
        }

        void redo(int n) {
            Entry e = entry(n);
            if (e.kind > 2) return;
            boolean again = dirty.containsKey(e.page) && dirty.get(e.page) <= n && memory[e.page][8] < n;
            counts[again ? 3 : 4]++;
            if (again) apply(n);
        }

        int restart(int n) {
            if (n < 0) return OUTSIDE;
            int steps = 0;
            for (; steps < n && part != 0; steps++) {
                if (part == 1) look(at++);
                else if (part == 2) redo(at++);
                else if (part == 3) end(doneWork());
                else {
                    int work = undoWork();
                    if (works.get(work)[2] == 0) end(work);
                    else {
                        undoOne(work);
                        counts[5]++;
                    }
                }
                settle();
            }
            return steps;
        }

        int table(int i, int what) {
            if (i < 0 || i >= works.size() || what < 0 || what > 3) return NONE;
            int work = new ArrayList<>(works.keySet()).get(i);
            return what == 0 ? work : works.get(work)[what - 1];
        }

        int record(int n, int what) {
            if (n < 1 || n > log.size() || what < 0 || what > 6) return NONE;
            Entry e = entry(n);
            return new int[] {e.kind, e.work, e.before, e.page, e.word, e.much, e.goesOn}[what];
        }

        int count(int what) {
            if (what < 0 || what > 5) return OUTSIDE;
            return what == 0 ? log.size() : what == 1 ? forced : counts[what];
        }

        int word(int page, int word) {
            return page < 0 || page > 63 || word < 0 || word > 7 ? 0 : memory[page][word];
        }

        int page(int page, int what) {
            if (page < 0 || page > 63 || what < 0 || what > 2) return OUTSIDE;
            return what == 0 ? memory[page][8] : what == 1 ? dirty.getOrDefault(page, NONE) : medium[page][8];
        }
    }

    /** What is called, with up to four numbers: one shape for the book, the model and a later book. */
    private static final class Call {
        final String name;
        final int[] with;

        Call(String name, int... with) {
            this.name = name;
            this.with = with;
        }

        int on(RestartBook x) {
            switch (name) {
                case "begin": return x.begin();
                case "add": return x.add(with[0], with[1], with[2], with[3]);
                case "back": return x.back(with[0], with[1]);
                case "prepare": return x.prepare(with[0]);
                case "commit": return x.commit(with[0]);
                case "abort": return x.abort(with[0]);
                case "write": return x.write(with[0]);
                case "force": return x.force(with[0]);
                case "point": return x.point();
                case "loss": return x.loss(with[0]);
                case "restart": return x.restart(with[0]);
                case "part": return x.part();
                case "word": return x.word(with[0], with[1]);
                case "page": return x.page(with[0], with[1]);
                case "table": return x.table(with[0], with[1]);
                case "record": return x.record(with[0], with[1]);
                default: return x.count(with[0]);
            }
        }

        int on(Model x) {
            switch (name) {
                case "begin": return x.begin();
                case "add": return x.add(with[0], with[1], with[2], with[3]);
                case "back": return x.back(with[0], with[1]);
                case "prepare": return x.prepare(with[0]);
                case "commit": return x.commit(with[0]);
                case "abort": return x.abort(with[0]);
                case "write": return x.write(with[0]);
                case "force": return x.force(with[0]);
                case "point": return x.point();
                case "loss": return x.loss(with[0]);
                case "restart": return x.restart(with[0]);
                case "part": return x.part;
                case "word": return x.word(with[0], with[1]);
                case "page": return x.page(with[0], with[1]);
                case "table": return x.table(with[0], with[1]);
                case "record": return x.record(with[0], with[1]);
                default: return x.count(with[0]);
            }
        }

        @Override
        public String toString() {
            return name + Arrays.toString(with).replace('[', '(').replace(']', ')');
        }
    }

    private final int seed;
    private final Random chance;
    private final RestartBook book = new RestartBook();
    private final Model model = new Model();
    private final List<Call> made = new ArrayList<>();
    private RestartBook asked;
    private int questionsLeft = 0;
    private final int pages;
    private final int works;
    private final int lossIn;

    private RestartBookModel(int seed) {
        this.seed = seed;
        this.chance = new Random(seed);
        this.pages = seed % 3 == 0 ? 64 : 1 + seed % 5;
        this.works = 2 + seed % 15;
        this.lossIn = 5 + seed % 60;
    }

    private void due(Object what, int got, int want) {
        if (got != want && wrong++ < 20) {
            System.out.println("seed " + seed + ", call " + made.size() + ": " + what + " answered " + got
                    + ", due is " + want);
        }
    }

    private int oddly(int usual) {
        int dice = chance.nextInt(60);
        return dice == 0 ? -1 : dice == 1 ? Integer.MIN_VALUE : dice == 2 ? Integer.MAX_VALUE : dice == 3 ? usual + 64 : usual;
    }

    private int someWork() {
        int size = model.works.size();
        return oddly(size == 0 ? chance.nextInt(5) : model.table(chance.nextInt(size), 0));
    }

    private int someMuch() {
        return chance.nextInt(4) == 0 ? chance.nextInt() : chance.nextInt(100) - 50;
    }

    private int someRecord() {
        return oddly(chance.nextInt(model.log.size() + 2));
    }

    private Call someCall() {
        if (model.part != 0 && chance.nextInt(3) > 0) {
            return new Call("restart", chance.nextInt(6) == 0 ? Integer.MAX_VALUE : oddly(chance.nextInt(30)));
        }
        if (chance.nextInt(lossIn) == 0) {
            return new Call("loss", oddly(chance.nextInt(1 + chance.nextInt(40))));
        }
        int page = oddly(chance.nextInt(pages));
        int kind = chance.nextInt(40);
        if (kind < 7 && model.works.size() < works) return new Call("begin");
        if (kind < 25) return new Call("add", someWork(), page, oddly(chance.nextInt(8)), someMuch());
        if (kind < 28) return new Call("back", someWork(), someRecord());
        if (kind < 30) return new Call("prepare", someWork());
        if (kind < 32) return new Call("commit", someWork());
        if (kind < 34) return new Call("abort", someWork());
        if (kind < 37) return new Call("write", page);
        if (kind < 38) return new Call("force", someRecord());
        if (kind < 39) return new Call("point");
        return new Call("restart", page);
    }

    private Call someQuestion() {
        switch (chance.nextInt(8)) {
            case 0: return new Call("part");
            case 1: return new Call("word", oddly(chance.nextInt(pages)), oddly(chance.nextInt(8)));
            case 2: return new Call("page", oddly(chance.nextInt(pages)), oddly(chance.nextInt(3)));
            case 3: return new Call("table", oddly(chance.nextInt(works)), oddly(chance.nextInt(4)));
            case 4: return new Call("count", oddly(chance.nextInt(6)));
            default: return new Call("record", someRecord(), oddly(chance.nextInt(7)));
        }
    }

    private void make(Call call) {
        int want = call.on(model);
        due(call, call.on(book), want);
        made.add(call);
        questionsLeft = 0;
    }

    /** A book behind the same calls, with a question left to it. */
    private RestartBook asked() {
        if (questionsLeft == 0) {
            asked = new RestartBook();
            for (Call call : made) {
                call.on(asked);
            }
            questionsLeft = MOST_CALLS - made.size();
        }
        questionsLeft--;
        return asked;
    }

    private void ask(String name, int... with) {
        Call call = new Call(name, with);
        due(call, call.on(asked()), call.on(model));
    }

    private void compareAll() {
        ask("part");
        for (int what = -1; what <= 6; what++) {
            ask("count", what);
        }
        for (int i = -1; i <= 17; i++) {
            for (int what = -1; what <= 4; what++) {
                ask("table", i, what);
            }
        }
        for (int page = -1; page <= 64; page++) {
            for (int what = -1; what <= 3; what++) {
                ask("page", page, what);
            }
            for (int word = -1; word <= 8; word++) {
                ask("word", page, word);
            }
        }
        for (int n = -1; n <= model.log.size() + 3; n++) {
            for (int what = -1; what <= 7; what++) {
                ask("record", n, what);
            }
        }
    }

    /** Whenever a book is up, its pages are the sum of its log, and only works in the table are open in it. */
    private void checkLaws() {
        if (asked().part() != 0) {
            return;
        }
        int[][] sums = new int[64][8];
        int[] marks = new int[64];
        TreeMap<Integer, Integer> open = new TreeMap<>();
        int records = asked().count(0);
        for (int n = 1; n <= records; n++) {
            int kind = asked().record(n, 0);
            int work = asked().record(n, 1);
            int page = asked().record(n, 3);
            if (kind <= 2) {
                sums[page][asked().record(n, 4)] += asked().record(n, 5);
                marks[page] = n;
            }
            if (kind == 5) {
                open.remove(work);
            } else if (work != 0) {
                open.put(work, n);
            }
        }
        for (int page = 0; page < 64; page++) {
            due("law: mark of page " + page, asked().page(page, 0), marks[page]);
            for (int word = 0; word < 8; word++) {
                due("law: word " + word + " of page " + page, asked().word(page, word), sums[page][word]);
            }
        }
        for (int i = 0; i < 16; i++) {
            int work = asked().table(i, 0);
            if (work != NONE) {
                Integer last = open.remove(work);
                due("law: last of " + work, asked().table(i, 2), last == null ? 0 : last);
            }
        }
        due("law: open works that are not in the table", open.size(), 0);
    }

    /** All that can be asked is asked now and then, and at the end, behind a whole restart. */
    private void runShort() {
        for (int i = 1; i <= CALLS_OF_A_SHORT_RUN; i++) {
            make(someCall());
            if (i % 32 == seed % 32) {
                compareAll();
                checkLaws();
            }
        }
        make(new Call("loss", 0));
        make(new Call("restart", Integer.MAX_VALUE));
        compareAll();
        checkLaws();
    }

    /** All calls that are promised, with questions among them. */
    private void runLong() {
        int questionsIn = 2 + seed % 20;
        for (int i = 1; i <= MOST_CALLS; i++) {
            make(chance.nextInt(questionsIn) == 0 ? someQuestion() : someCall());
        }
    }

    /** Behind the promised calls answers are free, but a call still ends without a throw. */
    private static void runFar() {
        Random chance = new Random(7);
        RestartBook x = new RestartBook();
        int[] odd = {Integer.MIN_VALUE, -1, 0, 1, 7, 8, 63, 64, 200, 201, 5000, Integer.MAX_VALUE};
        for (int i = 0; i < 60000; i++) {
            int a = chance.nextInt(3) == 0 ? odd[chance.nextInt(odd.length)] : chance.nextInt(201);
            int b = chance.nextInt(3) == 0 ? odd[chance.nextInt(odd.length)] : chance.nextInt(64);
            int c = chance.nextInt(3) == 0 ? odd[chance.nextInt(odd.length)] : chance.nextInt(8);
            int kind = chance.nextInt(400);
            if (kind < 6) x.begin();
            else if (kind < 300) x.add(x.table(chance.nextInt(16), 0), b, c, i);
            else if (kind < 310) x.back(a, b);
            else if (kind < 312) x.prepare(a);
            else if (kind < 314) x.commit(a);
            else if (kind < 316) x.abort(a);
            else if (kind < 340) x.write(b);
            else if (kind < 345) x.force(a);
            else if (kind < 347) x.point();
            else if (kind < 349) x.loss(a);
            else if (kind < 360) x.restart(a);
            else if (kind < 370) x.word(b, c);
            else if (kind < 380) x.page(b, c);
            else if (kind < 385) x.table(c, b);
            else if (kind < 395) x.record(a, c);
            else x.count(c);
        }
    }

    public static void main(String[] args) {
        for (int seed = 1; seed <= 300; seed++) {
            new RestartBookModel(seed).runShort();
        }
        for (int seed = 1001; seed <= 3000; seed++) {
            new RestartBookModel(seed).runLong();
        }
        runFar();
        System.out.println(wrong == 0 ? "all answers are as due" : wrong + " answers are not as due");
        if (wrong != 0) {
            System.exit(1);
        }
    }
}
