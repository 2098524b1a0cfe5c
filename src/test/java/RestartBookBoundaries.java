import java.util.ArrayList;
import java.util.Arrays;
import java.util.List;
import java.util.function.Supplier;
import java.util.function.ToIntFunction;

/**
 * Each sentence of the document that names a boundary case has a test of its own here, told with the sentence.
 * No book is asked or told anything behind its 512th call, but in the tests of 2,000 changes, which need more.
 */
public final class RestartBookBoundaries {
    private static final int NONE = -1, UNKNOWN = -101, OUTSIDE = -102, STATE = -103, ROOM = -104, DOWN = -105;
    private static final int MIN = Integer.MIN_VALUE, MAX = Integer.MAX_VALUE;
    private static final int ASKED_OF_ONE_BOOK = 250;

    private static String sentence = "";
    private static int wrong = 0;

    public static void main(String[] args) {
        terms();
        lossAndRestart();
        refusals();
        promisesOneToTen();
        promisesElevenToEighteen();
        System.out.println(wrong == 0 ? "all answers are as due" : wrong + " answers are not as due");
        if (wrong != 0) {
            System.exit(1);
        }
    }

    private static void terms() {
        test("What it is: an object is used for at most 512 calls", RestartBookBoundaries::the512thCall);
        test("Terms: 64 pages of 8 words", RestartBookBoundaries::firstAndLastPlaces);
        test("Terms: sums wrap", RestartBookBoundaries::sumsWrap);
        test("Terms: sums wrap, in a restart too", RestartBookBoundaries::sumsWrapInRestart);
        test("Terms: all 0, in memory and on the medium", RestartBookBoundaries::allZeroOnTheMedium);
        test("Terms: works, 200 in all", RestartBookBoundaries::twoHundredWorks);
        test("Terms: works, 200 in all, those that a loss took too", RestartBookBoundaries::twoHundredThroughLosses);
        test("Terms: works, 16 in the table at once", RestartBookBoundaries::sixteenAtOnce);
        test("Terms: works, 16 in the table at once, behind a restart", RestartBookBoundaries::sixteenBehindARestart);
        test("Terms: works, 16 in the table at once, a loss empties it", RestartBookBoundaries::sixteenBehindALoss);
        test("Terms: a number is never given a second time", RestartBookBoundaries::numbersAreNotGivenAgain);
        test("Terms: records are numbered 1, 2, .. as they come", RestartBookBoundaries::recordsAsTheyCome);
        test("Terms: records are numbered as they come, behind a loss", RestartBookBoundaries::recordsBehindALoss);
        test("Terms: the first so many are forced", RestartBookBoundaries::theFirstAreForced);
        test("Terms: the mark, 0 at first", RestartBookBoundaries::marks);
        test("Terms: dirty from the first record behind its last writing on", RestartBookBoundaries::bases);
        test("Terms: the record before (0: none)", RestartBookBoundaries::recordsBefore);
        test("Terms: the record before (0: none), of a work that a point told", RestartBookBoundaries::recordBeforeAnEnd);
        test("Terms: where undoing goes on (0: none)", RestartBookBoundaries::whereUndoingGoesOn);
        test("Terms: the next one to be undone (0: none)", RestartBookBoundaries::nextToBeUndone);
        test("Terms: in the table from its beginning until its end", RestartBookBoundaries::fromBeginningUntilEnd);
        test("Terms: to undo, as long as its next one is above that", RestartBookBoundaries::asLongAsAbove);
    }

    private static void lossAndRestart() {
        test("Loss: only the first so many are kept, and forced then", RestartBookBoundaries::theFirstAreKept);
        test("Loss: what is forced is kept", RestartBookBoundaries::theForcedAreKept);
        test("Loss: what a restart wrote is not forced", RestartBookBoundaries::restartForcesNothing);
        test("Loss: pages are as on the medium", RestartBookBoundaries::pagesAsOnTheMedium);
        test("Loss: both tables are empty", RestartBookBoundaries::bothTablesEmpty);
        test("Loss: down until it has gone through", RestartBookBoundaries::downUntilTheLastStep);
        test("Loss: what it was in before, it begins anew", RestartBookBoundaries::beginsAnew);
        test("Loss: what it was in before, it begins anew with what is kept", RestartBookBoundaries::beginsAnewWithMore);
        test("Looking through: from 1 on, if there is no point", RestartBookBoundaries::lookedFromOne);
        test("Looking through: from the latest point on", RestartBookBoundaries::lookedFromTheLatestPoint);
        test("Looking through: works and pages come with the end of the point", RestartBookBoundaries::fullPoint);
        test("Looking through: as they were told there", RestartBookBoundaries::asTold);
        test("Looking through: a record brings a work in", RestartBookBoundaries::recordsBringIn);
        test("Looking through: then it is its last one; a return tells the next", RestartBookBoundaries::lastAndNext);
        test("Looking through: 3, 4, 6 make its state 4, 2, 3", RestartBookBoundaries::statesOfRecords);
        test("Looking through: behind 5 it is out", RestartBookBoundaries::outBehindFive);
        test("Looking through: a page that is not dirty gets its base", RestartBookBoundaries::basesOfRecords);
        test("Doing again: from the least base on, to the last one", RestartBookBoundaries::fromTheLeastBase);
        test("Doing again: if a page is dirty", RestartBookBoundaries::noPageIsDirty);
        test("Doing again: dirty with a base up to it", RestartBookBoundaries::baseUpToIt);
        test("Doing again: with a mark below it", RestartBookBoundaries::markBelow);
        test("Doing again: the mark is it then", RestartBookBoundaries::markBehindDoingAgain);
        test("Doing again: other changes and returns are passed over", RestartBookBoundaries::passedOver);
        test("Ending: those that are done get their record 5 and go", RestartBookBoundaries::doneWorksEnd);
        test("Undoing: the greatest next record of all works", RestartBookBoundaries::greatestNextFirst);
        test("Undoing: of those with 0 the least number", RestartBookBoundaries::leastNumberOfThoseWithNone);
        test("Undoing: works in states 1 and 2", RestartBookBoundaries::statesOneAndTwo);
        test("Undoing: with 0 it gets its record 5 and goes", RestartBookBoundaries::nothingLeftToUndo);
        test("Undoing: behind the last one the book is up", RestartBookBoundaries::upBehindTheLastOne);
    }

    private static void refusals() {
        test("Refusals: DOWN before all others", RestartBookBoundaries::downBeforeAll);
        test("Refusals: DOWN before ROOM of works", RestartBookBoundaries::downBeforeRoomOfWorks);
        test("Refusals: DOWN before ROOM of points", RestartBookBoundaries::downBeforeRoomOfPoints);
        test("Refusals: DOWN, of others than loss, restart and what is asked", RestartBookBoundaries::answeredWhileDown);
        test("Refusals: UNKNOWN before OUTSIDE", RestartBookBoundaries::unknownBeforeOutside);
        test("Refusals: OUTSIDE before STATE", RestartBookBoundaries::outsideBeforeState);
        test("Refusals: OUTSIDE and STATE before ROOM", RestartBookBoundaries::outsideAndStateBeforeRoom);
        test("Refusals: UNKNOWN, no such work in the table", RestartBookBoundaries::noSuchWork);
        test("Refusals: what is refused changes nothing, up", RestartBookBoundaries::refusedUp);
        test("Refusals: what is refused changes nothing, down", RestartBookBoundaries::refusedDown);
        test("Refusals: what is refused changes nothing, full", RestartBookBoundaries::refusedFull);
    }

    private static void promisesOneToTen() {
        test("Promise 1: pages of 0, an empty log; the book is up", RestartBookBoundaries::newBook);
        test("Promise 2: its number", RestartBookBoundaries::beginsWithoutARecord);
        test("Promise 3: OUTSIDE (page 0 .. 63)", RestartBookBoundaries::addPages);
        test("Promise 3: OUTSIDE (word 0 .. 7)", RestartBookBoundaries::addWords);
        test("Promise 3: any int is added", RestartBookBoundaries::addAnyInt);
        test("Promise 3: STATE (it does not work)", RestartBookBoundaries::addState);
        test("Promise 3: ROOM (2,000 changes are in the log)", RestartBookBoundaries::addRoom);
        test("Promise 3: ROOM, a loss makes room", RestartBookBoundaries::addRoomBehindALoss);
        test("Promise 4: OUTSIDE (0 .. its last one)", RestartBookBoundaries::backOutside);
        test("Promise 4: a work without records", RestartBookBoundaries::backOfNothing);
        test("Promise 4: STATE (it does not work)", RestartBookBoundaries::backState);
        test("Promise 5: the log is forced up to its record", RestartBookBoundaries::prepareForces);
        test("Promise 5: STATE (it does not work)", RestartBookBoundaries::prepareState);
        test("Promise 6: a work that works or is prepared", RestartBookBoundaries::commitBoth);
        test("Promise 6: forced up to its record; then it ends", RestartBookBoundaries::commitForces);
        test("Promise 7: a work that works or is prepared", RestartBookBoundaries::abortBoth);
        test("Promise 7: all is undone: how many returns came", RestartBookBoundaries::abortOfLittle);
        test("Promise 8: the log is forced up to its mark", RestartBookBoundaries::writeForces);
        test("Promise 8: the medium has it", RestartBookBoundaries::writeToTheMedium);
        test("Promise 8: 0 if it was not dirty", RestartBookBoundaries::writeOfAClean);
        test("Promise 8: a page that a restart left dirty", RestartBookBoundaries::writeBehindARestart);
        test("Promise 8: OUTSIDE", RestartBookBoundaries::writeOutside);
        test("Promise 9: to all, if there are fewer", RestartBookBoundaries::forceAll);
        test("Promise 9: how many are forced", RestartBookBoundaries::forceLess);
        test("Promise 9: OUTSIDE (n is below 0)", RestartBookBoundaries::forceOutside);
        test("Promise 10: begins and ends, and is forced", RestartBookBoundaries::pointForces);
        test("Promise 10: ROOM (100 points in all)", RestartBookBoundaries::hundredPoints);
        test("Promise 10: ROOM (100 points in all), losses between", RestartBookBoundaries::hundredPointsThroughLosses);
    }

    private static void promisesElevenToEighteen() {
        test("Promise 11: when no part has a step, the book is up at once", RestartBookBoundaries::upAtOnce);
        test("Promise 11: OUTSIDE (keep is below 0)", RestartBookBoundaries::lossOutside);
        test("Promise 12: up to n steps", RestartBookBoundaries::upToSoManySteps);
        test("Promise 12: of a book that is down", RestartBookBoundaries::restartOfABookThatIsUp);
        test("Promise 12: OUTSIDE (n is below 0)", RestartBookBoundaries::restartOutside);
        test("Promise 13: a part without steps is passed over", RestartBookBoundaries::partsWithoutSteps);
        test("Promise 14: 0 when there is no such word", RestartBookBoundaries::noSuchWord);
        test("Promise 15: NONE if it is not dirty", RestartBookBoundaries::baseOfAClean);
        test("Promise 15: OUTSIDE", RestartBookBoundaries::pageOutside);
        test("Promise 16: from 0, by numbers", RestartBookBoundaries::tableByNumbers);
        test("Promise 16: NONE when there is none such", RestartBookBoundaries::noSuchRow);
        test("Promise 17: 0 of points", RestartBookBoundaries::recordsOfPoints);
        test("Promise 17: 3 .. 6 are 0 for others", RestartBookBoundaries::recordsOfOthers);
        test("Promise 17: NONE when there is none such", RestartBookBoundaries::noSuchRecord);
        test("Promise 18: in all losses' restarts", RestartBookBoundaries::countsOfAllRestarts);
        test("Promise 18: undone in restarts, not by back and abort", RestartBookBoundaries::countsOfRestartsAlone);
        test("Promise 18: OUTSIDE", RestartBookBoundaries::countOutside);
    }

    private static void test(String named, Runnable body) {
        sentence = named;
        body.run();
    }

    private static void due(String call, int got, int want) {
        if (got != want) {
            wrong++;
            System.out.println(sentence + ": " + call + " answered " + got + ", due is " + want);
        }
    }

    private static void due(String call, String got, String want) {
        if (!got.equals(want)) {
            wrong++;
            System.out.println(sentence + ": " + call + " is '" + got + "', due is '" + want + "'");
        }
    }

    private static RestartBook begun(int works) {
        RestartBook x = new RestartBook();
        for (int i = 1; i <= works; i++) {
            due("begin()", x.begin(), i);
        }
        return x;
    }

    /** The table of works: number:state,last,next of each. */
    private static String works(RestartBook x) {
        StringBuilder s = new StringBuilder();
        for (int i = 0; i < 17 && x.table(i, 0) != NONE; i++) {
            s.append(i == 0 ? "" : " ").append(x.table(i, 0)).append(':').append(x.table(i, 1));
            s.append(',').append(x.table(i, 2)).append(',').append(x.table(i, 3));
        }
        return s.toString();
    }

    /** All that a record tells: kind, work, before, page, word, how much, where undoing goes on. */
    private static String record(RestartBook x, int n) {
        StringBuilder s = new StringBuilder();
        for (int what = 0; what < 7; what++) {
            s.append(what == 0 ? "" : " ").append(x.record(n, what));
        }
        return s.toString();
    }

    private static String kinds(RestartBook x) {
        StringBuilder s = new StringBuilder();
        for (int n = 1; x.record(n, 0) != NONE; n++) {
            s.append(x.record(n, 0));
        }
        return s.toString();
    }

    private static String counts(RestartBook x) {
        StringBuilder s = new StringBuilder();
        for (int what = 0; what < 6; what++) {
            s.append(what == 0 ? "" : " ").append(x.count(what));
        }
        return s.toString();
    }

    /** The parts of a restart, a figure for each step, up to the 0 of a book that is up. */
    private static String parts(RestartBook x) {
        StringBuilder s = new StringBuilder();
        for (int i = 0; i < 100 && x.part() != 0; i++) {
            s.append(x.part());
            due("restart(1)", x.restart(1), 1);
        }
        return s.append(x.part()).toString();
    }

    /** Four records, work 2 done and not ended, works 1 and 3 open: 4 + 4 + 1 + 4 steps. */
    private static RestartBook downWithAllParts() {
        RestartBook x = begun(3);
        x.add(1, 0, 0, 1);
        x.add(2, 1, 0, 2);
        x.add(3, 2, 0, 4);
        x.commit(2);
        due("loss(0)", x.loss(0), 4);
        return x;
    }

    // Terms

    private static void the512thCall() {
        RestartBook x = begun(1);
        for (int i = 1; i <= 510; i++) {
            due("add", x.add(1, i % 64, i % 8, i), i);
        }
        due("abort(1)", x.abort(1), 510);

        x = begun(1);
        for (int i = 1; i <= 509; i++) {
            x.add(1, i % 64, i % 8, i);
        }
        due("abort(1)", x.abort(1), 509);
        due("record(1020, 2)", x.record(1020, 2), 1019);

        x = begun(1);
        for (int i = 1; i <= 507; i++) {
            x.add(1, i % 64, i % 8, i);
        }
        x.force(507);
        due("loss(0)", x.loss(0), 507);
        due("restart", x.restart(MAX), 507 + 507 + 507 + 1);
        due("count(0)", x.count(0), 507 + 507 + 1);
    }

    private static void firstAndLastPlaces() {
        RestartBook x = begun(1);
        due("add", x.add(1, 0, 0, 10), 1);
        due("add", x.add(1, 0, 7, 20), 2);
        due("add", x.add(1, 63, 0, 30), 3);
        due("add", x.add(1, 63, 7, 40), 4);
        due("word(0, 0)", x.word(0, 0), 10);
        due("word(0, 7)", x.word(0, 7), 20);
        due("word(63, 0)", x.word(63, 0), 30);
        due("word(63, 7)", x.word(63, 7), 40);
        due("word(0, 1)", x.word(0, 1), 0);
        due("word(0, 6)", x.word(0, 6), 0);
        due("word(1, 0)", x.word(1, 0), 0);
        due("word(62, 7)", x.word(62, 7), 0);
        due("word(63, 1)", x.word(63, 1), 0);
        due("word(63, 6)", x.word(63, 6), 0);
    }

    private static void sumsWrap() {
        RestartBook x = begun(1);
        x.add(1, 0, 0, MAX);
        x.add(1, 0, 0, 1);
        due("MAX + 1", x.word(0, 0), MIN);
        x.add(1, 0, 1, MIN);
        x.add(1, 0, 1, -1);
        due("MIN - 1", x.word(0, 1), MAX);
        due("back(1, 3)", x.back(1, 3), 1);
        due("MIN, again", x.word(0, 1), MIN);
        due("back(1, 2)", x.back(1, 2), 1);
        due("MIN undone", x.word(0, 1), 0);
        due("record", record(x, 6), "2 1 5 0 1 " + MIN + " 2");
        due("abort(1)", x.abort(1), 2);
        due("all undone", x.word(0, 0), 0);
    }

    private static void sumsWrapInRestart() {
        RestartBook x = begun(1);
        x.add(1, 0, 0, MAX);
        x.add(1, 0, 0, MAX);
        x.add(1, 0, 0, MIN);
        x.force(3);
        x.loss(0);
        due("restart(5)", x.restart(5), 5);
        due("MAX + MAX", x.word(0, 0), -2);
        x.restart(1);
        due("MAX + MAX + MIN", x.word(0, 0), MAX - 1);
        x.restart(1);
        due("MIN undone", x.word(0, 0), -2);
        x.restart(1);
        due("MAX undone", x.word(0, 0), MAX);
        x.restart(1);
        due("MAX undone", x.word(0, 0), 0);
    }

    private static void allZeroOnTheMedium() {
        for (int half = 0; half < 2; half++) {
            RestartBook x = begun(1);
            for (int page = 0; page < 64; page++) {
                x.add(1, page, page % 8, 7);
            }
            x.loss(0);
            for (int page = 32 * half; page < 32 * half + 32; page++) {
                due("mark on the medium of " + page, x.page(page, 2), 0);
                due("mark of " + page, x.page(page, 0), 0);
                for (int word = 0; word < 8; word++) {
                    due("word(" + page + ", " + word + ")", x.word(page, word), 0);
                }
            }
        }
    }

    private static void twoHundredWorks() {
        RestartBook x = new RestartBook();
        for (int i = 1; i <= 200; i++) {
            due("begin()", x.begin(), i);
            due("commit(" + i + ")", x.commit(i), 2 * i - 1);
        }
        due("begin(), the 201st", x.begin(), ROOM);
        due("begin(), the 201st again", x.begin(), ROOM);
        due("table", works(x), "");
    }

    private static void twoHundredThroughLosses() {
        RestartBook x = new RestartBook();
        for (int i = 1; i <= 200; i++) {
            due("begin()", x.begin(), i);
            if (i % 16 == 0) {
                due("loss(0)", x.loss(0), 0);
            }
        }
        due("table(7, 0)", x.table(7, 0), 200);
        due("begin(), the 201st", x.begin(), ROOM);
        due("loss(0)", x.loss(0), 0);
        due("begin(), the 201st, an empty table", x.begin(), ROOM);
    }

    private static void sixteenAtOnce() {
        RestartBook x = begun(16);
        due("begin(), the 17th", x.begin(), ROOM);
        due("prepare(1)", x.prepare(1), 1);
        due("begin(): a prepared one is in the table", x.begin(), ROOM);
        due("abort(16)", x.abort(16), 0);
        due("begin(): one was given up", x.begin(), 17);
        due("begin()", x.begin(), ROOM);
        due("commit(1)", x.commit(1), 4);
        due("begin(): one was done", x.begin(), 18);
        due("begin()", x.begin(), ROOM);
        due("table(15, 0)", x.table(15, 0), 18);
    }

    private static void sixteenBehindARestart() {
        RestartBook x = begun(16);
        for (int i = 1; i <= 16; i++) {
            due("prepare(" + i + ")", x.prepare(i), i);
        }
        due("loss(0)", x.loss(0), 16);
        due("restart", x.restart(MAX), 16);
        due("begin(), the 17th", x.begin(), ROOM);
        due("abort(5)", x.abort(5), 0);
        due("begin()", x.begin(), 17);
        due("begin()", x.begin(), ROOM);
        due("table(15, 0)", x.table(15, 0), 17);
    }

    private static void sixteenBehindALoss() {
        RestartBook x = begun(16);
        due("loss(0)", x.loss(0), 0);
        for (int i = 17; i <= 32; i++) {
            due("begin()", x.begin(), i);
        }
        due("begin()", x.begin(), ROOM);
        due("table(0, 0)", x.table(0, 0), 17);
        due("table(15, 0)", x.table(15, 0), 32);
    }

    private static void numbersAreNotGivenAgain() {
        RestartBook x = begun(1);
        x.loss(0);
        due("begin(): lost without a record", x.begin(), 2);
        x.add(2, 0, 0, 1);
        due("loss(0)", x.loss(0), 0);
        due("begin(): lost with its record", x.begin(), 3);
        x.commit(3);
        due("begin(): done", x.begin(), 4);
        x.add(4, 0, 0, 1);
        due("loss(MAX)", x.loss(MAX), 3);
        due("begin(): refused", x.begin(), DOWN);
        x.restart(MAX);
        due("begin(): undone in a restart", x.begin(), 5);
        x.abort(5);
        due("begin(): given up", x.begin(), 6);
    }

    private static void recordsAsTheyCome() {
        RestartBook x = begun(2);
        due("add", x.add(1, 0, 0, 1), 1);
        due("add", x.add(2, 0, 0, 1), 2);
        due("prepare(1)", x.prepare(1), 3);
        due("point()", x.point(), 4);
        due("add", x.add(2, 0, 0, 1), 6);
        due("back(2, 2)", x.back(2, 2), 1);
        due("commit(1)", x.commit(1), 8);
        due("abort(2)", x.abort(2), 1);
        due("kinds", kinds(x), "116781235425");
        due("count(0)", x.count(0), 12);
    }

    private static void recordsBehindALoss() {
        RestartBook x = begun(1);
        x.add(1, 0, 0, 1);
        x.add(1, 0, 0, 2);
        x.add(1, 0, 0, 4);
        x.force(1);
        due("loss(1)", x.loss(1), 2);
        due("restart", x.restart(MAX), 2 + 2 + 2 + 1);
        due("kinds", kinds(x), "11225");
        due("record", record(x, 3), "2 1 2 0 0 -2 1");
        due("begin()", x.begin(), 2);
        due("add", x.add(2, 0, 0, 8), 6);
        due("record", record(x, 6), "1 2 0 0 0 8 0");
    }

    private static void theFirstAreForced() {
        RestartBook x = begun(2);
        x.add(1, 0, 0, 1);
        x.add(2, 1, 0, 1);
        x.add(1, 2, 0, 1);
        x.add(2, 3, 0, 1);
        due("count(1)", x.count(1), 0);
        x.write(2);
        due("write(2): records of all works before it", x.count(1), 3);
        due("loss(0)", x.loss(0), 3);
        due("kinds", kinds(x), "111");
    }

    private static void marks() {
        RestartBook x = begun(1);
        due("at first", x.page(9, 0), 0);
        x.add(1, 9, 0, 1);
        due("a change", x.page(9, 0), 1);
        x.add(1, 9, 7, 1);
        due("another change", x.page(9, 0), 2);
        x.add(1, 8, 0, 1);
        due("a change of another page", x.page(9, 0), 2);
        x.back(1, 2);
        due("a return of another page", x.page(9, 0), 2);
        due("a return", x.page(8, 0), 4);
        x.back(1, 0);
        due("two returns", x.page(9, 0), 6);
        x.write(9);
        due("writing", x.page(9, 0), 6);
        x.add(1, 9, 0, 0);
        due("nothing is added", x.page(9, 0), 7);
        x.prepare(1);
        x.point();
        due("no change", x.page(9, 0), 7);
    }

    private static void bases() {
        RestartBook x = begun(1);
        due("at first", x.page(9, 1), NONE);
        x.add(1, 9, 0, 1);
        due("a change", x.page(9, 1), 1);
        x.add(1, 9, 0, 1);
        due("another change", x.page(9, 1), 1);
        x.point();
        due("a point", x.page(9, 1), 1);
        x.write(9);
        due("written", x.page(9, 1), NONE);
        x.add(1, 8, 0, 1);
        due("a change of another page", x.page(9, 1), NONE);
        x.add(1, 9, 0, 0);
        due("a change behind the writing", x.page(9, 1), 6);
        x.add(1, 9, 0, 1);
        due("another change", x.page(9, 1), 6);
        x.write(9);
        due("back(1, 5)", x.back(1, 5), 2);
        due("returns behind the writing", x.page(9, 1), 8);
        due("the other page", x.page(8, 1), 5);
    }

    private static void recordsBefore() {
        RestartBook x = begun(4);
        x.add(1, 0, 0, 1);
        x.prepare(2);
        x.commit(3);
        x.abort(4);
        x.point();
        due("add", x.add(1, 0, 0, 1), 9);
        due("commit(2)", x.commit(2), 10);
        due("abort(1)", x.abort(1), 2);
        int[] before = {0, 0, 0, 3, 0, 5, 0, 0, 1, 2, 10, 9, 12, 13, 14};
        for (int n = 1; n <= before.length; n++) {
            due("record(" + n + ", 2)", x.record(n, 2), before[n - 1]);
        }
        due("count(0)", x.count(0), before.length);
    }

    private static void recordBeforeAnEnd() {
        RestartBook x = begun(1);
        x.point();
        x.loss(0);
        due("restart", x.restart(MAX), 3);
        due("record", record(x, 3), "5 1 0 0 0 0 0");
    }

    private static void whereUndoingGoesOn() {
        for (int way = 0; way < 2; way++) {
            RestartBook x = begun(2);
            x.add(1, 0, 0, 1);
            x.add(2, 0, 0, 2);
            x.add(1, 0, 0, 3);
            due("back(1, 1)", x.back(1, 1), 1);
            due("record(4, 6)", x.record(4, 6), 1);
            x.add(1, 0, 0, 5);
            x.add(1, 0, 0, 6);
            due("back(1, 5)", x.back(1, 5), 1);
            due("record(7, 6)", x.record(7, 6), 5);
            x.add(1, 0, 0, 8);
            if (way == 0) {
                due("abort(1)", x.abort(1), 3);
                due("a return past one that is undone", record(x, 10), "2 1 9 0 0 -8 5");
                due("a return past one that is undone", record(x, 11), "2 1 10 0 0 -5 1");
                due("the return of the first change", record(x, 12), "2 1 11 0 0 -1 0");
            } else {
                due("loss(MAX)", x.loss(MAX), 8);
                due("restart", x.restart(MAX), 8 + 8 + 4 + 2);
                due("a return past one that is undone", record(x, 9), "2 1 8 0 0 -8 5");
                due("a return past one that is undone", record(x, 10), "2 1 9 0 0 -5 1");
                due("the other work", record(x, 11), "2 2 2 0 0 -2 0");
                due("the return of the first change", record(x, 12), "2 1 10 0 0 -1 0");
            }
        }
    }

    private static void nextToBeUndone() {
        RestartBook x = begun(2);
        due("at first", works(x), "1:1,0,0 2:1,0,0");
        x.add(1, 0, 0, 1);
        due("a change", works(x), "1:1,1,1 2:1,0,0");
        x.add(1, 0, 0, 1);
        due("another change", works(x), "1:1,2,2 2:1,0,0");
        x.back(1, 1);
        due("a return", works(x), "1:1,3,1 2:1,0,0");
        x.back(1, 0);
        due("the last return", works(x), "1:1,4,0 2:1,0,0");
        x.add(1, 0, 0, 1);
        due("a change behind returns", works(x), "1:1,5,5 2:1,0,0");
        x.prepare(1);
        x.prepare(2);
        due("prepared", works(x), "1:3,6,5 2:3,7,0");
    }

    private static void fromBeginningUntilEnd() {
        RestartBook x = new RestartBook();
        due("at first", works(x), "");
        x.begin();
        due("its beginning", works(x), "1:1,0,0");
        x.commit(1);
        due("its end", works(x), "");
        x.begin();
        x.add(2, 0, 0, 1);
        x.back(2, 0);
        due("with all undone", works(x), "2:1,4,0");
        x.abort(2);
        due("its end", works(x), "");
    }

    private static void asLongAsAbove() {
        RestartBook x = begun(1);
        x.add(1, 0, 0, 1);
        x.add(1, 0, 0, 2);
        x.add(1, 0, 0, 4);
        due("back(1, 3): the next one is it", x.back(1, 3), 0);
        due("back(1, 2): the next one is above", x.back(1, 2), 1);
        due("word(0, 0)", x.word(0, 0), 3);
        due("back(1, 2): the next one is it", x.back(1, 2), 0);
        due("back(1, 3): the next one is below", x.back(1, 3), 0);
        due("back(1, 4): its last one", x.back(1, 4), 0);
        due("back(1, 1)", x.back(1, 1), 1);
        due("word(0, 0)", x.word(0, 0), 1);
        due("back(1, 0)", x.back(1, 0), 1);
        due("word(0, 0)", x.word(0, 0), 0);
        due("back(1, 0): none is left", x.back(1, 0), 0);
        due("count(0)", x.count(0), 6);
    }

    // A loss of power

    private static void theFirstAreKept() {
        for (int keep : new int[] {0, 1, 2, 3, 4, MAX - 1, MAX}) {
            RestartBook x = begun(1);
            for (int i = 1; i <= 5; i++) {
                x.add(1, 0, 0, i);
            }
            x.force(2);
            int kept = 2 + Math.min(keep, 3);
            due("loss(" + keep + ")", x.loss(keep), kept);
            due("count(0)", x.count(0), kept);
            due("count(1)", x.count(1), kept);
            due("the last that is kept", x.record(kept, 5), kept);
            due("the first that is not", x.record(kept + 1, 0), NONE);
            due("loss(0)", x.loss(0), kept);
        }
    }

    private static void theForcedAreKept() {
        for (int keep : new int[] {0, 1, MAX}) {
            RestartBook x = begun(1);
            x.add(1, 0, 0, 1);
            x.prepare(1);
            due("loss(" + keep + ")", x.loss(keep), 2);
            due("count(1)", x.count(1), 2);
        }
    }

    private static void restartForcesNothing() {
        for (int keep = 0; keep <= 5; keep++) {
            RestartBook x = downWithAllParts();
            due("restart(12)", x.restart(12), 12);
            due("count(0)", x.count(0), 8);
            due("count(1)", x.count(1), 4);
            due("loss(" + keep + ")", x.loss(keep), 4 + Math.min(keep, 4));
        }
    }

    private static void pagesAsOnTheMedium() {
        RestartBook x = begun(1);
        x.add(1, 0, 0, 1);
        x.add(1, 0, 7, 2);
        x.add(1, 63, 0, 3);
        x.add(1, 63, 7, 4);
        x.write(0);
        x.write(63);
        x.add(1, 0, 0, 10);
        x.add(1, 63, 7, 10);
        x.add(1, 1, 1, 10);
        x.loss(MAX);
        due("word(0, 0)", x.word(0, 0), 1);
        due("word(0, 7)", x.word(0, 7), 2);
        due("word(63, 0)", x.word(63, 0), 3);
        due("word(63, 7)", x.word(63, 7), 4);
        due("word(1, 1)", x.word(1, 1), 0);
        due("mark of 0", x.page(0, 0), 2);
        due("mark of 63", x.page(63, 0), 4);
        due("mark of 1", x.page(1, 0), 0);
    }

    private static void bothTablesEmpty() {
        RestartBook x = begun(16);
        for (int page = 0; page < 64; page++) {
            x.add(1 + page % 16, page, 0, 1);
        }
        x.prepare(7);
        x.point();
        due("loss(MAX)", x.loss(MAX), 67);
        due("works", works(x), "");
        for (int page = 0; page < 64; page++) {
            due("base of " + page, x.page(page, 1), NONE);
        }
    }

    private static void downUntilTheLastStep() {
        RestartBook x = downWithAllParts();
        for (int step = 0; step < 13; step++) {
            due("begin() behind " + step + " steps", x.begin(), DOWN);
            due("add behind " + step + " steps", x.add(1, 0, 0, 1), DOWN);
            due("force(0) behind " + step + " steps", x.force(0), DOWN);
            due("restart(1)", x.restart(1), 1);
        }
        due("part()", x.part(), 0);
        due("begin()", x.begin(), 4);
        due("add", x.add(4, 0, 0, 1), 10);
    }

    private static void beginsAnew() {
        for (int steps = 0; steps <= 13; steps++) {
            RestartBook x = downWithAllParts();
            due("restart(" + steps + ")", x.restart(steps), steps);
            due("loss(0)", x.loss(0), 4);
            due("works", works(x), "");
            due("word(1, 0)", x.word(1, 0), 0);
            due("parts", parts(x), "11112222344440");
            due("kinds", kinds(x), "111352255");
            due("looked through", x.count(2), Math.min(steps, 4) + 4);
            due("done again", x.count(3), Math.max(0, Math.min(steps - 4, 3)) + 3);
            due("undone", x.count(5), Math.max(0, Math.min(steps - 9, 2)) + 2);
        }
    }

    private static void beginsAnewWithMore() {
        String[] due = {"11111222224444", "111111222222444", "1111111222222244", "11111111222222224",
            "111111111222222222"};
        for (int more = 1; more <= 5; more++) {
            RestartBook x = downWithAllParts();
            x.restart(8 + more);
            due("loss(MAX)", x.loss(MAX), 4 + more);
            due("parts", parts(x), due[more - 1] + "0");
            due("kinds", kinds(x), "111352255");
            due("words", x.word(0, 0) + " " + x.word(1, 0) + " " + x.word(2, 0), "0 2 0");
        }
    }

    private static void lookedFromOne() {
        RestartBook x = begun(1);
        x.add(1, 0, 0, 1);
        x.add(1, 1, 0, 1);
        x.add(1, 2, 0, 1);
        x.force(3);
        x.loss(0);
        x.restart(1);
        due("works behind record 1", works(x), "1:1,1,1");
        due("base of page 0", x.page(0, 1), 1);
        x.restart(2);
        due("part()", x.part(), 2);
        due("count(2)", x.count(2), 3);
    }

    private static void lookedFromTheLatestPoint() {
        RestartBook x = begun(1);
        x.add(1, 0, 0, 1);
        due("point()", x.point(), 2);
        x.add(1, 0, 0, 1);
        due("point()", x.point(), 5);
        x.add(1, 0, 0, 1);
        due("loss(MAX)", x.loss(MAX), 7);
        due("restart(2)", x.restart(2), 2);
        due("part()", x.part(), 1);
        due("told by the latest", works(x), "1:1,4,4");
        due("restart(1)", x.restart(1), 1);
        due("part()", x.part(), 2);
        due("count(2)", x.count(2), 3);
        due("works", works(x), "1:1,7,7");

        x = begun(1);
        due("point() as the last records", x.point(), 1);
        due("loss(0)", x.loss(0), 2);
        due("parts", parts(x), "1140");
    }

    private static void fullPoint() {
        RestartBook x = begun(16);
        for (int page = 0; page < 64; page++) {
            x.add(1 + page % 16, page, 0, 1);
        }
        due("point()", x.point(), 65);
        due("loss(0)", x.loss(0), 66);
        x.restart(1);
        due("works behind the point's beginning", works(x), "");
        due("page behind the point's beginning", x.page(0, 1), NONE);
        x.restart(1);
        StringBuilder all = new StringBuilder();
        for (int work = 1; work <= 16; work++) {
            int last = 48 + work;
            all.append(work == 1 ? "" : " ").append(work).append(":1,").append(last).append(',').append(last);
        }
        due("works behind the point's end", works(x), all.toString());
        for (int page = 0; page < 64; page++) {
            due("base of " + page, x.page(page, 1), page + 1);
        }
        due("part()", x.part(), 2);
        due("restart(66)", x.restart(66), 66);
        due("counts", counts(x), "66 66 2 64 0 0");
        due("restart", x.restart(MAX), 64 + 16);
    }

    private static void asTold() {
        RestartBook x = begun(4);
        x.add(1, 3, 0, 1);
        x.add(2, 4, 0, 2);
        x.add(2, 5, 0, 2);
        x.back(2, 2);
        x.write(4);
        x.prepare(3);
        due("point()", x.point(), 6);
        x.loss(0);
        x.restart(2);
        due("works", works(x), "1:1,1,1 2:1,4,2 3:3,5,0 4:1,0,0");
        due("a page that was dirty", x.page(3, 1), 1);
        due("a page that was written", x.page(4, 1), NONE);
        due("a page that was dirty", x.page(5, 1), 3);
    }

    private static void recordsBringIn() {
        RestartBook x = begun(1);
        x.point();
        x.begin();
        x.add(2, 0, 0, 1);
        x.begin();
        x.loss(MAX);
        x.restart(2);
        due("told", works(x), "1:1,0,0");
        x.restart(1);
        due("a change brings it in; one without records is lost", works(x), "1:1,0,0 2:1,3,3");

        x = begun(1);
        x.prepare(1);
        x.loss(0);
        x.restart(1);
        due("prepared brings it in, next 0", works(x), "1:3,1,0");

        x = begun(1);
        x.commit(1);
        x.loss(0);
        x.restart(1);
        due("done brings it in, next 0", works(x), "1:4,1,0");

        x = begun(1);
        x.abort(1);
        due("loss(1)", x.loss(1), 1);
        x.restart(1);
        due("given up brings it in, next 0", works(x), "1:2,1,0");

        x = begun(2);
        x.add(1, 0, 0, 1);
        x.commit(1);
        x.prepare(2);
        x.loss(0);
        x.restart(4);
        due("nothing of the work that was there", works(x), "2:3,4,0");
    }

    private static void lastAndNext() {
        RestartBook x = begun(1);
        x.add(1, 0, 0, 1);
        x.add(1, 0, 0, 1);
        x.add(1, 0, 0, 1);
        due("back(1, 0)", x.back(1, 0), 3);
        x.prepare(1);
        due("loss(0)", x.loss(0), 7);
        String[] due = {"1:1,1,1", "1:1,2,2", "1:1,3,3", "1:1,4,2", "1:1,5,1", "1:1,6,0", "1:3,7,0"};
        for (int n = 1; n <= due.length; n++) {
            x.restart(1);
            due("works behind record " + n, works(x), due[n - 1]);
        }
    }

    private static void statesOfRecords() {
        RestartBook x = begun(3);
        x.add(1, 0, 0, 1);
        x.add(2, 0, 0, 1);
        x.add(3, 0, 0, 1);
        x.prepare(1);
        x.commit(2);
        x.abort(3);
        due("loss(2)", x.loss(2), 7);
        x.restart(3);
        due("changes", works(x), "1:1,1,1 2:1,2,2 3:1,3,3");
        x.restart(1);
        due("6", works(x), "1:3,4,1 2:1,2,2 3:1,3,3");
        x.restart(1);
        due("3", works(x), "1:3,4,1 2:4,5,2 3:1,3,3");
        x.restart(1);
        due("5", works(x), "1:3,4,1 3:1,3,3");
        x.restart(1);
        due("4", works(x), "1:3,4,1 3:2,7,3");

        x = begun(2);
        x.prepare(1);
        x.prepare(2);
        x.commit(1);
        x.abort(2);
        due("loss(2)", x.loss(2), 5);
        x.restart(3);
        due("3 behind 6", works(x), "1:4,3,0 2:3,2,0");
        x.restart(2);
        due("4 behind 6", works(x), "2:2,5,0");
    }

    private static void outBehindFive() {
        RestartBook x = begun(2);
        x.add(1, 0, 0, 1);
        x.commit(1);
        x.point();
        x.commit(2);
        due("loss(MAX)", x.loss(MAX), 7);
        x.restart(2);
        due("told", works(x), "2:1,0,0");
        x.restart(1);
        due("done", works(x), "2:4,6,0");
        x.restart(1);
        due("ended", works(x), "");
        due("part()", x.part(), 2);
        due("nothing to end", x.restart(MAX), 7);
        due("count(0)", x.count(0), 7);
    }

    private static void basesOfRecords() {
        RestartBook x = begun(1);
        x.add(1, 5, 0, 1);
        x.add(1, 5, 0, 1);
        x.add(1, 6, 0, 1);
        x.write(6);
        x.point();
        x.back(1, 2);
        x.add(1, 5, 0, 1);
        x.add(1, 6, 0, 1);
        x.loss(MAX);
        x.restart(2);
        due("told", x.page(5, 1), 1);
        due("not told", x.page(6, 1), NONE);
        x.restart(1);
        due("a return", x.page(6, 1), 6);
        x.restart(2);
        due("a page that is dirty already", x.page(5, 1), 1);
        due("a page that is dirty already", x.page(6, 1), 6);

        x = begun(1);
        x.add(1, 5, 0, 1);
        x.write(5);
        x.add(1, 5, 0, 1);
        x.loss(MAX);
        x.restart(1);
        due("a change, though the medium has it", x.page(5, 1), 1);
        x.restart(1);
        due("a page that is dirty already", x.page(5, 1), 1);
    }

    private static void fromTheLeastBase() {
        RestartBook x = begun(1);
        x.add(1, 0, 0, 1);
        x.add(1, 63, 0, 2);
        x.add(1, 0, 0, 4);
        x.add(1, 7, 0, 8);
        x.write(0);
        due("point()", x.point(), 5);
        due("loss(0)", x.loss(0), 6);
        due("records 2 to 6", parts(x).substring(0, 8), "11222224");
        due("counts", counts(x), "11 6 2 2 1 4");

        x = begun(1);
        x.add(1, 0, 0, 1);
        x.write(0);
        x.add(1, 1, 0, 1);
        x.point();
        x.add(1, 0, 0, 1);
        x.prepare(1);
        due("loss(0)", x.loss(0), 6);
        due("the least base is not the first page's", parts(x), "1111222220");
        due("counts", counts(x), "6 6 4 2 0 0");

        x = begun(1);
        x.point();
        x.prepare(1);
        x.begin();
        x.add(2, 9, 0, 1);
        due("loss(1)", x.loss(1), 4);
        due("the last record alone", parts(x), "11112440");
    }

    private static void noPageIsDirty() {
        RestartBook x = begun(1);
        x.add(1, 0, 0, 1);
        x.add(1, 1, 0, 1);
        x.write(0);
        x.write(1);
        x.point();
        due("loss(0)", x.loss(0), 4);
        due("parts", parts(x), "114440");
        due("counts", counts(x), "7 4 2 0 0 2");
        due("words", x.word(0, 0) + x.word(1, 0), 0);
    }

    private static void baseUpToIt() {
        RestartBook x = begun(1);
        x.add(1, 1, 0, 1);
        x.add(1, 0, 0, 2);
        x.write(0);
        x.point();
        x.add(1, 0, 0, 4);
        x.prepare(1);
        due("loss(0)", x.loss(0), 6);
        x.restart(4);
        due("bases", x.page(1, 1) * 10 + x.page(0, 1), 15);
        x.restart(1);
        due("1, the base is it", counts(x), "6 6 4 1 0 0");
        x.restart(1);
        due("2, the base 5 is above it", counts(x), "6 6 4 1 1 0");
        x.restart(3);
        due("5, the base is it", counts(x), "6 6 4 2 1 0");
        due("word(0, 0)", x.word(0, 0), 6);
        due("restart", x.restart(MAX), 1);
    }

    private static void markBelow() {
        RestartBook x = begun(1);
        x.add(1, 0, 0, 1);
        x.add(1, 0, 0, 2);
        x.write(0);
        x.add(1, 0, 0, 4);
        x.prepare(1);
        due("loss(0)", x.loss(0), 4);
        x.restart(4);
        x.restart(1);
        due("1 below the mark 2", counts(x), "4 4 4 0 1 0");
        x.restart(1);
        due("2 is the mark", counts(x), "4 4 4 0 2 0");
        due("word(0, 0)", x.word(0, 0), 3);
        x.restart(1);
        due("3 above the mark", counts(x), "4 4 4 1 2 0");
        due("word(0, 0)", x.word(0, 0), 7);
    }

    private static void markBehindDoingAgain() {
        RestartBook x = begun(1);
        x.add(1, 0, 0, 1);
        x.add(1, 1, 0, 1);
        x.add(1, 0, 0, 1);
        x.prepare(1);
        x.loss(0);
        x.restart(4);
        due("before", x.page(0, 0), 0);
        x.restart(1);
        due("record 1", x.page(0, 0), 1);
        x.restart(1);
        due("record 2", x.page(0, 0) * 10 + x.page(1, 0), 12);
        x.restart(1);
        due("record 3", x.page(0, 0) * 10 + x.page(1, 0), 32);
        due("not on the medium", x.page(0, 2), 0);
        due("still dirty", x.page(0, 1), 1);
    }

    private static void passedOver() {
        RestartBook x = begun(2);
        x.add(1, 0, 0, 1);
        x.add(1, 1, 0, 2);
        x.back(1, 1);
        x.write(1);
        x.prepare(1);
        x.point();
        x.commit(2);
        due("loss(1)", x.loss(1), 8);
        x.restart(4);
        due("record 1 again", x.restart(1) * 100 + x.count(3) * 10 + x.count(4), 110);
        due("a change of a clean page", x.restart(1) * 100 + x.count(3) * 10 + x.count(4), 111);
        due("a return of a clean page", x.restart(1) * 100 + x.count(3) * 10 + x.count(4), 112);
        due("others are neither", x.restart(5) * 100 + x.count(3) * 10 + x.count(4), 512);
        due("part()", x.part(), 0);
        due("word(1, 0)", x.word(1, 0), 0);
        due("mark of 1", x.page(1, 0), 3);
    }

    private static void doneWorksEnd() {
        RestartBook x = begun(3);
        x.prepare(1);
        x.add(3, 0, 0, 1);
        x.add(2, 0, 0, 2);
        x.commit(2);
        due("loss(0)", x.loss(0), 4);
        due("restart(7)", x.restart(7), 7);
        due("part()", x.part(), 3);
        due("works", works(x), "1:3,1,0 2:4,4,3 3:1,2,2");
        due("restart(1)", x.restart(1), 1);
        due("record", record(x, 5), "5 2 4 0 0 0 0");
        due("works", works(x), "1:3,1,0 3:1,2,2");
        due("part()", x.part(), 4);
        due("not undone", x.word(0, 0), 3);
    }

    private static void greatestNextFirst() {
        RestartBook x = begun(3);
        x.add(2, 0, 0, 1);
        x.add(1, 1, 0, 2);
        x.add(3, 2, 0, 4);
        x.add(2, 3, 0, 8);
        x.add(1, 4, 0, 16);
        x.abort(3);
        due("loss(6)", x.loss(6), 6);
        due("restart(12)", x.restart(12), 12);
        due("works", works(x), "1:1,5,5 2:1,4,4 3:2,6,3");
        int[] undone = {1, 2, 3, 1, 2};
        for (int i = 0; i < undone.length; i++) {
            due("restart(1)", x.restart(1), 1);
            due("work of return " + (7 + i), x.record(7 + i, 1), undone[i]);
            due("kind of return " + (7 + i), x.record(7 + i, 0), 2);
        }
        due("works", works(x), "1:1,10,0 2:1,11,0 3:2,9,0");
        due("restart", x.restart(MAX), 3);
    }

    private static void leastNumberOfThoseWithNone() {
        RestartBook x = begun(4);
        x.add(4, 0, 0, 1);
        x.back(4, 0);
        x.add(2, 0, 0, 1);
        x.point();
        due("loss(0)", x.loss(0), 5);
        due("restart(2)", x.restart(2), 2);
        due("works", works(x), "1:1,0,0 2:1,3,3 3:1,0,0 4:1,2,0");
        due("restart(5)", x.restart(5), 5);
        x.restart(1);
        due("none ends before all are undone", record(x, 6), "2 2 3 0 0 -1 0");
        x.restart(4);
        due("record", record(x, 7), "5 1 0 0 0 0 0");
        due("record", record(x, 8), "5 2 6 0 0 0 0");
        due("record", record(x, 9), "5 3 0 0 0 0 0");
        due("record", record(x, 10), "5 4 2 0 0 0 0");
        due("part()", x.part(), 0);
    }

    private static void statesOneAndTwo() {
        RestartBook x = begun(3);
        x.add(1, 0, 0, 1);
        x.add(2, 1, 0, 2);
        x.add(3, 2, 0, 4);
        x.prepare(3);
        x.abort(2);
        due("loss(1)", x.loss(1), 5);
        due("restart(10)", x.restart(10), 10);
        due("works", works(x), "1:1,1,1 2:2,5,2 3:3,4,3");
        due("restart", x.restart(MAX), 4);
        due("prepared work stays", works(x), "3:3,4,3");
        due("words", x.word(0, 0) + " " + x.word(1, 0) + " " + x.word(2, 0), "0 0 4");
        due("no record is given up", kinds(x), "111642255");
        due("abort(3)", x.abort(3), 1);
        due("word(2, 0)", x.word(2, 0), 0);
    }

    private static void nothingLeftToUndo() {
        RestartBook x = begun(1);
        x.add(1, 0, 0, 1);
        due("abort(1)", x.abort(1), 1);
        due("loss(3)", x.loss(3), 3);
        due("given up and undone, not ended", parts(x), "11122240");
        due("record", record(x, 4), "5 1 3 0 0 0 0");
        due("undone", x.count(5), 0);
        due("table", works(x), "");
    }

    private static void upBehindTheLastOne() {
        RestartBook x = begun(2);
        x.point();
        due("loss(0)", x.loss(0), 2);
        due("restart(3)", x.restart(3), 3);
        due("part()", x.part(), 4);
        due("begin()", x.begin(), DOWN);
        due("restart(9)", x.restart(9), 1);
        due("part()", x.part(), 0);
        due("begin()", x.begin(), 3);
    }

    // Refusals

    private static void downBeforeAll() {
        RestartBook x = downWithAllParts();
        for (int i = 0; i < 2; i++) {
            due("begin()", x.begin(), DOWN);
            due("add(99, 64, 8, 1)", x.add(99, 64, 8, 1), DOWN);
            due("back(99, -1)", x.back(99, -1), DOWN);
            due("prepare(99)", x.prepare(99), DOWN);
            due("commit(99)", x.commit(99), DOWN);
            due("abort(99)", x.abort(99), DOWN);
            due("write(64)", x.write(64), DOWN);
            due("force(-1)", x.force(-1), DOWN);
            due("point()", x.point(), DOWN);
            x.restart(4);
        }
        due("add(1, 0, 0, 1): work 1 is in the table", x.add(1, 0, 0, 1), DOWN);
        due("write(0): page 0 is dirty", x.write(0), DOWN);
    }

    private static void downBeforeRoomOfWorks() {
        RestartBook x = new RestartBook();
        for (int i = 1; i <= 200; i++) {
            x.begin();
            x.commit(i);
        }
        x.loss(0);
        due("begin()", x.begin(), DOWN);
        x.restart(MAX);
        due("begin()", x.begin(), ROOM);
    }

    private static void downBeforeRoomOfPoints() {
        RestartBook x = new RestartBook();
        for (int i = 1; i <= 100; i++) {
            x.point();
        }
        x.loss(0);
        due("point()", x.point(), DOWN);
        due("restart", x.restart(MAX), 2);
        due("point()", x.point(), ROOM);
    }

    private static void answeredWhileDown() {
        RestartBook x = downWithAllParts();
        due("part()", x.part(), 1);
        due("word(0, 0)", x.word(0, 0), 0);
        due("page(0, 0)", x.page(0, 0), 0);
        due("page(0, 1)", x.page(0, 1), NONE);
        due("page(64, 0)", x.page(64, 0), OUTSIDE);
        due("table(0, 0)", x.table(0, 0), NONE);
        due("record(4, 0)", x.record(4, 0), 3);
        due("record(5, 0)", x.record(5, 0), NONE);
        due("count(0)", x.count(0), 4);
        due("count(6)", x.count(6), OUTSIDE);
        due("restart(-1)", x.restart(-1), OUTSIDE);
        due("restart(5)", x.restart(5), 5);
        due("word(0, 0)", x.word(0, 0), 1);
        due("page(0, 1)", x.page(0, 1), 1);
        due("table(0, 0)", x.table(0, 0), 1);
        due("loss(-1)", x.loss(-1), OUTSIDE);
        due("loss(0)", x.loss(0), 4);
    }

    private static void unknownBeforeOutside() {
        RestartBook x = begun(1);
        due("add, no page", x.add(2, 64, 0, 1), UNKNOWN);
        due("add, no word", x.add(2, 0, 8, 1), UNKNOWN);
        due("back", x.back(2, -1), UNKNOWN);
    }

    private static void outsideBeforeState() {
        RestartBook x = begun(1);
        x.prepare(1);
        due("add, no page", x.add(1, 64, 0, 1), OUTSIDE);
        due("add, no word", x.add(1, 0, 8, 1), OUTSIDE);
        due("back, below 0", x.back(1, -1), OUTSIDE);
        due("back, above its last", x.back(1, 2), OUTSIDE);
        due("back, its last", x.back(1, 1), STATE);
    }

    private static void noSuchWork() {
        RestartBook x = begun(4);
        x.commit(2);
        x.abort(3);
        for (int work : new int[] {MIN, -1, 0, 2, 3, 5, 17, 200, 201, MAX}) {
            due("add(" + work + ", ..)", x.add(work, 0, 0, 1), UNKNOWN);
            due("back(" + work + ", 0)", x.back(work, 0), UNKNOWN);
            due("prepare(" + work + ")", x.prepare(work), UNKNOWN);
            due("commit(" + work + ")", x.commit(work), UNKNOWN);
            due("abort(" + work + ")", x.abort(work), UNKNOWN);
        }
        x.loss(0);
        x.restart(MAX);
        due("commit(1): a loss took it", x.commit(1), UNKNOWN);
        due("abort(4): a loss took it", x.abort(4), UNKNOWN);
    }

    private static RestartBook rich() {
        RestartBook x = begun(4);
        x.add(1, 0, 0, 1);
        x.add(2, 1, 7, 2);
        x.write(1);
        x.prepare(2);
        x.point();
        x.add(3, 63, 7, 4);
        x.add(1, 1, 0, 8);
        x.back(1, 1);
        return x;
    }

    private static void refusedUp() {
        changesNothing("add(5, ..)", RestartBookBoundaries::rich, x -> x.add(5, 0, 0, 1), UNKNOWN);
        changesNothing("add(1, 64, ..)", RestartBookBoundaries::rich, x -> x.add(1, 64, 0, 1), OUTSIDE);
        changesNothing("add(1, 0, 8, 1)", RestartBookBoundaries::rich, x -> x.add(1, 0, 8, 1), OUTSIDE);
        changesNothing("add(2, ..)", RestartBookBoundaries::rich, x -> x.add(2, 0, 0, 1), STATE);
        changesNothing("back(5, 0)", RestartBookBoundaries::rich, x -> x.back(5, 0), UNKNOWN);
        changesNothing("back(1, -1)", RestartBookBoundaries::rich, x -> x.back(1, -1), OUTSIDE);
        changesNothing("back(1, 9)", RestartBookBoundaries::rich, x -> x.back(1, 9), OUTSIDE);
        changesNothing("back(2, 0)", RestartBookBoundaries::rich, x -> x.back(2, 0), STATE);
        changesNothing("prepare(5)", RestartBookBoundaries::rich, x -> x.prepare(5), UNKNOWN);
        changesNothing("prepare(2)", RestartBookBoundaries::rich, x -> x.prepare(2), STATE);
        changesNothing("commit(0)", RestartBookBoundaries::rich, x -> x.commit(0), UNKNOWN);
        changesNothing("abort(0)", RestartBookBoundaries::rich, x -> x.abort(0), UNKNOWN);
        changesNothing("write(64)", RestartBookBoundaries::rich, x -> x.write(64), OUTSIDE);
        changesNothing("force(-1)", RestartBookBoundaries::rich, x -> x.force(-1), OUTSIDE);
        changesNothing("loss(-1)", RestartBookBoundaries::rich, x -> x.loss(-1), OUTSIDE);
        changesNothing("restart(-1)", RestartBookBoundaries::rich, x -> x.restart(-1), OUTSIDE);
        changesNothing("page(64, 0)", RestartBookBoundaries::rich, x -> x.page(64, 0), OUTSIDE);
        changesNothing("count(6)", RestartBookBoundaries::rich, x -> x.count(6), OUTSIDE);
    }

    private static void refusedDown() {
        for (int steps = 0; steps < 13; steps += 3) {
            int done = steps;
            Supplier<RestartBook> maker = () -> {
                RestartBook x = downWithAllParts();
                x.restart(done);
                return x;
            };
            changesNothing("begin()", maker, x -> x.begin(), DOWN);
            changesNothing("add(1, ..)", maker, x -> x.add(1, 0, 0, 1), DOWN);
            changesNothing("back(1, 0)", maker, x -> x.back(1, 0), DOWN);
            changesNothing("prepare(1)", maker, x -> x.prepare(1), DOWN);
            changesNothing("commit(1)", maker, x -> x.commit(1), DOWN);
            changesNothing("abort(1)", maker, x -> x.abort(1), DOWN);
            changesNothing("write(0)", maker, x -> x.write(0), DOWN);
            changesNothing("force(9)", maker, x -> x.force(9), DOWN);
            changesNothing("point()", maker, x -> x.point(), DOWN);
            changesNothing("loss(-1)", maker, x -> x.loss(-1), OUTSIDE);
            changesNothing("restart(-1)", maker, x -> x.restart(-1), OUTSIDE);
        }
    }

    private static void refusedFull() {
        changesNothing("begin(), 16 at once", () -> begun(16), x -> x.begin(), ROOM);
        Supplier<RestartBook> maker = () -> {
            RestartBook x = new RestartBook();
            for (int i = 1; i <= 100; i++) {
                x.point();
            }
            return x;
        };
        changesNothing("point(), 100 in all", maker, x -> x.point(), ROOM);
    }

    /** A book with the refused call and one without it answer the same to all that is asked, then and later. */
    private static void changesNothing(String call, Supplier<RestartBook> maker, ToIntFunction<RestartBook> refused,
            int want) {
        Supplier<RestartBook> withIt = () -> {
            RestartBook x = maker.get();
            due(call, refused.applyAsInt(x), want);
            return x;
        };
        if (!Arrays.equals(answersOf(maker), answersOf(withIt))) {
            due("what is asked behind the refused " + call, "changed", "as before");
        }
        if (!Arrays.equals(answersOf(() -> later(maker.get())), answersOf(() -> later(withIt.get())))) {
            due("what is asked later behind the refused " + call, "changed", "as before");
        }
    }

    private static RestartBook later(RestartBook x) {
        x.restart(MAX);
        x.begin();
        x.add(x.table(0, 0), 9, 1, 5);
        x.point();
        x.abort(x.table(0, 0));
        x.begin();
        x.loss(1);
        x.restart(3);
        return x;
    }

    private static int[] answersOf(Supplier<RestartBook> maker) {
        List<ToIntFunction<RestartBook>> asked = new ArrayList<>();
        asked.add(x -> x.part());
        addAll(asked, 6, 1, (x, what, none) -> x.count(what));
        addAll(asked, 17, 4, (x, i, what) -> x.table(i, what));
        addAll(asked, 64, 3, (x, page, what) -> x.page(page, what));
        addAll(asked, 64, 8, (x, page, word) -> x.word(page, word));
        int records = maker.get().count(0);
        addAll(asked, Math.min(records, 20), 7, (x, n, what) -> x.record(records - n, what));
        int[] answers = new int[asked.size()];
        RestartBook x = null;
        for (int i = 0; i < answers.length; i++) {
            x = i % ASKED_OF_ONE_BOOK == 0 ? maker.get() : x;
            answers[i] = asked.get(i).applyAsInt(x);
        }
        return answers;
    }

    private interface Question {
        int of(RestartBook x, int a, int b);
    }

    private static void addAll(List<ToIntFunction<RestartBook>> asked, int as, int bs, Question question) {
        for (int i = 0; i < as * bs; i++) {
            int a = i / bs;
            int b = i % bs;
            asked.add(x -> question.of(x, a, b));
        }
    }

    // Promises 1 to 10

    private static void newBook() {
        int[] answers = answersOf(RestartBook::new);
        int[] want = new int[1 + 6 + 17 * 4 + 64 * 3 + 64 * 8];
        Arrays.fill(want, 7, 7 + 17 * 4, NONE);
        for (int page = 0; page < 64; page++) {
            want[7 + 17 * 4 + 3 * page + 1] = NONE;
        }
        due("all that is asked of a new book", Arrays.toString(answers), Arrays.toString(want));
        due("record(1, 0)", new RestartBook().record(1, 0), NONE);
        RestartBook x = new RestartBook();
        due("force(1)", x.force(1), 0);
        due("write(0)", x.write(0), 0);
        due("restart(1)", x.restart(1), 0);
        due("commit(1)", x.commit(1), UNKNOWN);
        due("begin()", x.begin(), 1);
    }

    private static void beginsWithoutARecord() {
        RestartBook x = new RestartBook();
        due("begin()", x.begin(), 1);
        due("count(0)", x.count(0), 0);
        due("table", works(x), "1:1,0,0");
        due("add", x.add(1, 0, 0, 1), 1);
        x.prepare(1);
        x.commit(1);
        due("begin()", x.begin(), 2);
        due("nothing of the work that was there", works(x), "2:1,0,0");
    }

    private static void addPages() {
        RestartBook x = begun(1);
        for (int page : new int[] {MIN, -64, -1, 64, 65, 1 << 29, MAX}) {
            due("add(1, " + page + ", 0, 1)", x.add(1, page, 0, 1), OUTSIDE);
            due("add(1, " + page + ", 7, 1)", x.add(1, page, 7, 1), OUTSIDE);
        }
        due("add(1, 0, 0, 1)", x.add(1, 0, 0, 1), 1);
        due("add(1, 63, 0, 1)", x.add(1, 63, 0, 1), 2);
    }

    private static void addWords() {
        RestartBook x = begun(1);
        for (int word : new int[] {MIN, -8, -1, 8, 9, MAX}) {
            due("add(1, 0, " + word + ", 1)", x.add(1, 0, word, 1), OUTSIDE);
            due("add(1, 63, " + word + ", 1)", x.add(1, 63, word, 1), OUTSIDE);
        }
        due("add(1, 0, 0, 1)", x.add(1, 0, 0, 1), 1);
        due("add(1, 0, 7, 1)", x.add(1, 0, 7, 1), 2);
    }

    private static void addAnyInt() {
        RestartBook x = begun(1);
        int[] much = {0, 1, -1, MAX, MIN};
        for (int i = 0; i < much.length; i++) {
            due("add(1, 5, " + i + ", " + much[i] + ")", x.add(1, 5, i, much[i]), i + 1);
            due("word(5, " + i + ")", x.word(5, i), much[i]);
            due("record(" + (i + 1) + ", 5)", x.record(i + 1, 5), much[i]);
        }
        due("abort(1)", x.abort(1), 5);
        for (int i = 0; i < much.length; i++) {
            due("record(" + (11 - i) + ", 5)", x.record(11 - i, 5), -much[i]);
        }
    }

    private static void addState() {
        RestartBook x = begun(2);
        x.prepare(1);
        due("add(1, ..), prepared", x.add(1, 0, 0, 1), STATE);
        due("add(2, ..), it works", x.add(2, 0, 0, 1), 2);
        x.loss(MAX);
        x.restart(MAX);
        due("add(1, ..), prepared before a loss", x.add(1, 0, 0, 1), STATE);
    }

    private static RestartBook withChanges(int changes) {
        RestartBook x = begun(1);
        for (int i = 1; i <= changes; i++) {
            due("add", x.add(1, i % 64, i % 8, i), i);
        }
        return x;
    }

    /** More calls than are promised: the document names the limit all the same. */
    private static void addRoom() {
        RestartBook x = withChanges(1999);
        due("the 2,000th change", x.add(1, 0, 0, 1), 2000);
        due("the 2,001st change", x.add(1, 0, 0, 1), ROOM);
        due("count(0)", x.count(0), 2000);
        due("back(1, 0)", x.back(1, 0), 2000);
        due("a change that is undone is in the log", x.add(1, 0, 0, 1), ROOM);
        due("begin()", x.begin(), 2);
        due("a change of another work", x.add(2, 0, 0, 1), ROOM);
    }

    /** More calls than are promised, as above. */
    private static void addRoomBehindALoss() {
        RestartBook x = withChanges(2000);
        x.force(1990);
        due("loss(8)", x.loss(8), 1998);
        due("restart", x.restart(MAX), 3 * 1998 + 1);
        due("begin()", x.begin(), 2);
        due("the 1,999th change", x.add(2, 0, 0, 1), 2 * 1998 + 2);
        due("the 2,000th change", x.add(2, 0, 0, 1), 2 * 1998 + 3);
        due("the 2,001st change", x.add(2, 0, 0, 1), ROOM);
    }

    /** More calls than are promised, as above. */
    private static void outsideAndStateBeforeRoom() {
        RestartBook x = withChanges(2000);
        due("add(1, 64, 0, 1)", x.add(1, 64, 0, 1), OUTSIDE);
        due("add(1, 0, 8, 1)", x.add(1, 0, 8, 1), OUTSIDE);
        due("add(1, 0, 0, 1)", x.add(1, 0, 0, 1), ROOM);
        x.prepare(1);
        due("add(1, 0, 0, 1), prepared", x.add(1, 0, 0, 1), STATE);
    }

    private static void backOutside() {
        RestartBook x = begun(2);
        x.add(1, 0, 0, 1);
        x.add(1, 0, 0, 2);
        x.add(2, 0, 0, 4);
        for (int to : new int[] {MIN, -1, 3, 4, MAX}) {
            due("back(1, " + to + ")", x.back(1, to), OUTSIDE);
        }
        due("back(1, 2): its last one", x.back(1, 2), 0);
        due("back(2, 2): a record of another work", x.back(2, 2), 1);
        due("back(1, 0)", x.back(1, 0), 2);
        due("back(1, 6): its last one is a return", x.back(1, 6), 0);
        due("back(1, 7)", x.back(1, 7), OUTSIDE);
    }

    private static void backOfNothing() {
        RestartBook x = begun(2);
        x.add(2, 0, 0, 1);
        due("back(1, 0)", x.back(1, 0), 0);
        due("back(1, 1)", x.back(1, 1), OUTSIDE);
        due("back(1, -1)", x.back(1, -1), OUTSIDE);
        due("count(0)", x.count(0), 1);
    }

    private static void backState() {
        RestartBook x = begun(1);
        x.add(1, 0, 0, 1);
        x.prepare(1);
        due("back(1, 0)", x.back(1, 0), STATE);
        due("back(1, 2): nothing to undo", x.back(1, 2), STATE);
        due("word(0, 0)", x.word(0, 0), 1);
    }

    private static void prepareForces() {
        RestartBook x = begun(2);
        due("prepare(1), the first record", x.prepare(1), 1);
        due("count(1)", x.count(1), 1);
        x.add(2, 0, 0, 1);
        x.add(2, 0, 0, 1);
        due("count(1)", x.count(1), 1);
        due("prepare(2)", x.prepare(2), 4);
        due("count(1)", x.count(1), 4);
        due("loss(0)", x.loss(0), 4);
    }

    private static void prepareState() {
        RestartBook x = begun(1);
        x.prepare(1);
        due("prepare(1)", x.prepare(1), STATE);
        x.loss(0);
        x.restart(MAX);
        due("prepare(1), prepared before a loss", x.prepare(1), STATE);
        due("count(0)", x.count(0), 1);
    }

    private static void commitBoth() {
        RestartBook x = begun(2);
        x.prepare(2);
        due("commit(1), it works", x.commit(1), 2);
        due("commit(2), prepared", x.commit(2), 4);
        due("records", record(x, 4) + ", " + record(x, 5), "3 2 1 0 0 0 0, 5 2 4 0 0 0 0");
        due("table", works(x), "");
        due("commit(2), ended", x.commit(2), UNKNOWN);
    }

    private static void commitForces() {
        RestartBook x = begun(2);
        x.add(2, 0, 0, 1);
        due("commit(1)", x.commit(1), 2);
        due("count(0)", x.count(0), 3);
        due("count(1): its end is not forced", x.count(1), 2);
        due("loss(0)", x.loss(0), 2);
        due("record(3, 0)", x.record(3, 0), NONE);
    }

    private static void abortBoth() {
        RestartBook x = begun(2);
        x.add(1, 0, 0, 1);
        x.add(2, 0, 0, 2);
        x.prepare(2);
        due("abort(1), it works", x.abort(1), 1);
        due("abort(2), prepared", x.abort(2), 1);
        due("kinds", kinds(x), "116425425");
        due("count(1)", x.count(1), 3);
        due("table", works(x), "");
        due("abort(2), ended", x.abort(2), UNKNOWN);
    }

    private static void abortOfLittle() {
        RestartBook x = begun(3);
        due("abort(1): no record", x.abort(1), 0);
        due("kinds", kinds(x), "45");
        x.add(2, 0, 0, 1);
        x.back(2, 0);
        due("abort(2): all is undone already", x.abort(2), 0);
        x.add(3, 0, 0, 1);
        x.add(3, 0, 0, 2);
        x.back(3, 7);
        due("abort(3): one is undone already", x.abort(3), 1);
        due("word(0, 0)", x.word(0, 0), 0);
    }

    private static void writeForces() {
        RestartBook x = begun(1);
        x.add(1, 0, 0, 1);
        x.add(1, 1, 0, 1);
        x.add(1, 0, 0, 1);
        x.add(1, 1, 0, 1);
        due("write(0)", x.write(0), 1);
        due("count(1): up to the mark, not the base nor all", x.count(1), 3);
        x.add(1, 2, 0, 1);
        x.force(5);
        due("write(1)", x.write(1), 1);
        due("count(1): more is forced already", x.count(1), 5);
        x.add(1, 0, 0, 1);
        due("write(2)", x.write(2), 1);
        due("count(1)", x.count(1), 5);
    }

    private static void writeToTheMedium() {
        RestartBook x = begun(1);
        x.add(1, 0, 0, 1);
        x.add(1, 0, 7, 2);
        x.add(1, 63, 0, 3);
        x.add(1, 63, 7, 4);
        due("write(63)", x.write(63), 1);
        due("mark on the medium of 0", x.page(0, 2), 0);
        due("mark on the medium of 63", x.page(63, 2), 4);
        x.loss(0);
        due("words of 63", x.word(63, 0) * 10 + x.word(63, 7), 34);
        due("words of 0", x.word(0, 0) * 10 + x.word(0, 7), 0);
    }

    private static void writeOfAClean() {
        RestartBook x = begun(1);
        due("write(0)", x.write(0), 0);
        x.add(1, 1, 0, 1);
        due("write(0)", x.write(0), 0);
        due("write(1)", x.write(1), 1);
        due("write(1)", x.write(1), 0);
        x.add(1, 2, 0, 1);
        due("write(1)", x.write(1), 0);
        due("count(1): nothing is forced", x.count(1), 1);
        due("base of 2", x.page(2, 1), 2);
    }

    private static void writeBehindARestart() {
        RestartBook x = begun(1);
        x.add(1, 0, 0, 1);
        x.write(0);
        x.prepare(1);
        x.loss(0);
        x.restart(MAX);
        due("base: looking through made it dirty", x.page(0, 1), 1);
        due("mark", x.page(0, 0) * 10 + x.page(0, 2), 11);
        due("write(0)", x.write(0), 1);
        due("write(0)", x.write(0), 0);
        due("mark on the medium", x.page(0, 2), 1);
        due("base", x.page(0, 1), NONE);
    }

    private static void writeOutside() {
        RestartBook x = begun(1);
        x.add(1, 0, 0, 1);
        x.add(1, 63, 0, 1);
        for (int page : new int[] {MIN, -1, 64, MAX}) {
            due("write(" + page + ")", x.write(page), OUTSIDE);
        }
        due("write(0)", x.write(0), 1);
        due("write(63)", x.write(63), 1);
    }

    private static void forceAll() {
        RestartBook x = begun(1);
        due("force(1): an empty log", x.force(1), 0);
        due("force(MAX): an empty log", x.force(MAX), 0);
        x.add(1, 0, 0, 1);
        x.add(1, 0, 0, 1);
        x.add(1, 0, 0, 1);
        due("force(2)", x.force(2), 2);
        due("force(3)", x.force(3), 3);
        due("force(4)", x.force(4), 3);
        x.add(1, 0, 0, 1);
        due("count(1): what comes later is not forced", x.count(1), 3);
        due("force(MAX)", x.force(MAX), 4);
    }

    private static void forceLess() {
        RestartBook x = begun(1);
        x.add(1, 0, 0, 1);
        x.add(1, 0, 0, 1);
        x.add(1, 0, 0, 1);
        due("force(0): none", x.force(0), 0);
        due("force(2)", x.force(2), 2);
        due("force(1): two are", x.force(1), 2);
        due("force(0): two are", x.force(0), 2);
        due("loss(0)", x.loss(0), 2);
    }

    private static void forceOutside() {
        RestartBook x = begun(1);
        x.add(1, 0, 0, 1);
        due("force(-1)", x.force(-1), OUTSIDE);
        due("force(MIN)", x.force(MIN), OUTSIDE);
        due("count(1)", x.count(1), 0);
        due("force(0)", x.force(0), 0);
    }

    private static void pointForces() {
        RestartBook x = begun(1);
        due("point(), an empty log", x.point(), 1);
        due("count(1)", x.count(1), 2);
        x.add(1, 0, 0, 1);
        x.add(1, 0, 0, 1);
        due("count(1)", x.count(1), 2);
        due("point()", x.point(), 5);
        due("count(0)", x.count(0), 6);
        due("count(1)", x.count(1), 6);
        due("loss(0)", x.loss(0), 6);
        due("kinds", kinds(x), "781178");
    }

    private static void hundredPoints() {
        RestartBook x = new RestartBook();
        for (int i = 1; i <= 100; i++) {
            due("point() " + i, x.point(), 2 * i - 1);
        }
        due("point(), the 101st", x.point(), ROOM);
        due("count(0)", x.count(0), 200);
        due("count(1)", x.count(1), 200);
    }

    private static void hundredPointsThroughLosses() {
        RestartBook x = new RestartBook();
        for (int i = 1; i <= 100; i++) {
            due("point() " + i, x.point(), 2 * i - 1);
            if (i % 10 == 0) {
                due("loss(0)", x.loss(0), 2 * i);
                due("restart", x.restart(MAX), 2);
            }
        }
        due("point(), the 101st", x.point(), ROOM);
    }

    // Promises 11 to 18

    private static void upAtOnce() {
        RestartBook x = new RestartBook();
        due("loss(0), an empty log", x.loss(0), 0);
        due("part()", x.part(), 0);
        due("loss(MAX), an empty log", x.loss(MAX), 0);
        due("part()", x.part(), 0);
        x.begin();
        x.add(1, 0, 0, 1);
        due("loss(0), all is lost", x.loss(0), 0);
        due("part()", x.part(), 0);
        due("restart(1)", x.restart(1), 0);
        due("word(0, 0)", x.word(0, 0), 0);
        due("base of 0", x.page(0, 1), NONE);
        due("works", works(x), "");
        due("counts", counts(x), "0 0 0 0 0 0");
        due("begin()", x.begin(), 2);
        x.add(2, 0, 0, 1);
        due("loss(1), one is kept", x.loss(1), 1);
        due("part()", x.part(), 1);
    }

    private static void lossOutside() {
        RestartBook x = begun(1);
        x.add(1, 0, 0, 1);
        due("loss(-1)", x.loss(-1), OUTSIDE);
        due("loss(MIN)", x.loss(MIN), OUTSIDE);
        due("word(0, 0)", x.word(0, 0), 1);
        due("part()", x.part(), 0);
        x.loss(1);
        x.restart(1);
        due("loss(-1), down", x.loss(-1), OUTSIDE);
        due("part()", x.part(), 2);
        due("loss(0)", x.loss(0), 1);
    }

    private static void upToSoManySteps() {
        int[] some = {0, 1, 3, 4, 5, 8, 9, 12, 13, 14, MAX};
        for (int n : some) {
            RestartBook x = downWithAllParts();
            due("restart(" + n + ")", x.restart(n), Math.min(n, 13));
            due("part()", x.part(), n < 4 ? 1 : n < 8 ? 2 : n < 9 ? 3 : n < 13 ? 4 : 0);
            due("the rest", x.restart(MAX), 13 - Math.min(n, 13));
        }
    }

    private static void restartOfABookThatIsUp() {
        RestartBook x = begun(1);
        x.add(1, 0, 0, 5);
        due("restart(0)", x.restart(0), 0);
        due("restart(1)", x.restart(1), 0);
        due("restart(MAX)", x.restart(MAX), 0);
        due("word(0, 0)", x.word(0, 0), 5);
        due("counts", counts(x), "1 0 0 0 0 0");
        due("works", works(x), "1:1,1,1");
    }

    private static void restartOutside() {
        RestartBook x = begun(1);
        x.add(1, 0, 0, 5);
        due("restart(-1), up", x.restart(-1), OUTSIDE);
        due("restart(MIN), up", x.restart(MIN), OUTSIDE);
        x.loss(1);
        due("restart(-1), down", x.restart(-1), OUTSIDE);
        due("restart(MIN), down", x.restart(MIN), OUTSIDE);
        due("part()", x.part(), 1);
        due("counts", counts(x), "1 1 0 0 0 0");
    }

    private static void partsWithoutSteps() {
        due("all parts", parts(downWithAllParts()), "11112222344440");

        RestartBook x = begun(1);
        x.add(1, 0, 0, 1);
        x.loss(1);
        due("none is done", parts(x), "12440");

        x = begun(1);
        x.add(1, 0, 0, 1);
        x.commit(1);
        x.loss(1);
        due("none is done or open", parts(x), "1112220");

        x = begun(1);
        x.add(1, 0, 0, 1);
        x.commit(1);
        x.loss(0);
        due("none is open", parts(x), "112230");

        x = begun(1);
        x.commit(1);
        x.loss(0);
        due("no page is dirty, none is open", parts(x), "130");

        x = begun(2);
        x.point();
        x.commit(1);
        x.loss(0);
        due("no page is dirty", parts(x), "111340");

        x = begun(1);
        x.point();
        x.loss(0);
        due("no page is dirty, none is done", parts(x), "1140");

        x = new RestartBook();
        x.point();
        x.loss(0);
        due("looking through alone", parts(x), "110");

        x = begun(1);
        x.loss(0);
        due("no part at all", parts(x), "0");
    }

    private static void noSuchWord() {
        RestartBook x = begun(1);
        for (int page : new int[] {0, 1, 62, 63}) {
            for (int word : new int[] {0, 7}) {
                x.add(1, page, word, 9);
            }
        }
        for (int page : new int[] {MIN, -1, 64, 1 << 29, MAX}) {
            due("word(" + page + ", 0)", x.word(page, 0), 0);
            due("word(" + page + ", 7)", x.word(page, 7), 0);
            due("word(" + page + ", 8)", x.word(page, 8), 0);
            due("word(" + page + ", -1)", x.word(page, -1), 0);
        }
        for (int word : new int[] {MIN, -8, -1, 8, 15, MAX}) {
            for (int page : new int[] {0, 1, 62, 63}) {
                due("word(" + page + ", " + word + ")", x.word(page, word), 0);
            }
        }
        due("word(0, 0)", x.word(0, 0), 9);
        due("word(63, 7)", x.word(63, 7), 9);
    }

    private static void baseOfAClean() {
        RestartBook x = begun(1);
        due("page(0, 1), never changed", x.page(0, 1), NONE);
        x.add(1, 0, 0, 1);
        due("page(0, 1)", x.page(0, 1), 1);
        due("page(1, 1), another", x.page(1, 1), NONE);
        x.write(0);
        due("page(0, 1), written", x.page(0, 1), NONE);
        x.add(1, 0, 0, 1);
        x.loss(0);
        due("page(0, 1), lost", x.page(0, 1), NONE);
    }

    private static void pageOutside() {
        RestartBook x = begun(1);
        x.add(1, 0, 0, 1);
        x.add(1, 63, 0, 1);
        for (int what = 0; what < 3; what++) {
            for (int page : new int[] {MIN, -1, 64, MAX}) {
                due("page(" + page + ", " + what + ")", x.page(page, what), OUTSIDE);
            }
        }
        for (int what : new int[] {MIN, -1, 3, MAX}) {
            due("page(0, " + what + ")", x.page(0, what), OUTSIDE);
            due("page(63, " + what + ")", x.page(63, what), OUTSIDE);
        }
        due("page(63, 0)", x.page(63, 0), 2);
        due("page(63, 1)", x.page(63, 1), 2);
        due("page(63, 2)", x.page(63, 2), 0);
    }

    private static void tableByNumbers() {
        RestartBook x = begun(3);
        x.add(3, 0, 0, 1);
        x.add(1, 0, 0, 1);
        x.add(2, 0, 0, 1);
        x.loss(3);
        x.restart(1);
        due("the third comes first", works(x), "3:1,1,1");
        x.restart(1);
        due("then the first", works(x), "1:1,2,2 3:1,1,1");
        x.restart(1);
        due("then the second", works(x), "1:1,2,2 2:1,3,3 3:1,1,1");

        x = begun(16);
        x.commit(1);
        x.commit(16);
        x.commit(8);
        for (int i = 0; i < 13; i++) {
            due("table(" + i + ", 0)", x.table(i, 0), i < 6 ? i + 2 : i + 3);
        }
        due("table(13, 0)", x.table(13, 0), NONE);
    }

    private static void noSuchRow() {
        RestartBook x = new RestartBook();
        due("table(0, 0), an empty table", x.table(0, 0), NONE);
        x = begun(2);
        for (int what = 0; what < 4; what++) {
            for (int i : new int[] {MIN, -1, 2, 15, 16, 17, MAX}) {
                due("table(" + i + ", " + what + ")", x.table(i, what), NONE);
            }
        }
        for (int what : new int[] {MIN, -1, 4, MAX}) {
            due("table(0, " + what + ")", x.table(0, what), NONE);
            due("table(1, " + what + ")", x.table(1, what), NONE);
        }
        due("table(1, 0)", x.table(1, 0), 2);
        due("table(1, 3)", x.table(1, 3), 0);
        x.commit(1);
        due("table(1, 0), one has ended", x.table(1, 0), NONE);
        x = begun(16);
        due("table(15, 0), a full table", x.table(15, 0), 16);
        due("table(16, 0), a full table", x.table(16, 0), NONE);
    }

    private static void recordsOfPoints() {
        RestartBook x = begun(1);
        x.add(1, 5, 5, 5);
        x.point();
        due("it begins", record(x, 2), "7 0 0 0 0 0 0");
        due("it ends", record(x, 3), "8 0 0 0 0 0 0");
        x.point();
        due("another begins", record(x, 4), "7 0 0 0 0 0 0");
        due("another ends", record(x, 5), "8 0 0 0 0 0 0");
    }

    private static void recordsOfOthers() {
        RestartBook x = begun(2);
        x.add(1, 5, 6, 7);
        x.add(2, 5, 6, 7);
        x.prepare(1);
        x.commit(1);
        x.abort(2);
        due("a change goes nowhere on", record(x, 1), "1 1 0 5 6 7 0");
        due("prepared", record(x, 3), "6 1 1 0 0 0 0");
        due("done", record(x, 4), "3 1 3 0 0 0 0");
        due("ended", record(x, 5), "5 1 4 0 0 0 0");
        due("given up", record(x, 6), "4 2 2 0 0 0 0");
        due("a return", record(x, 7), "2 2 6 5 6 -7 0");
        due("ended", record(x, 8), "5 2 7 0 0 0 0");

        x = begun(1);
        x.add(1, 5, 6, 7);
        x.loss(0);
        x.begin();
        x.prepare(2);
        due("nothing of a record that was lost", record(x, 1), "6 2 0 0 0 0 0");
    }

    private static void noSuchRecord() {
        RestartBook x = new RestartBook();
        due("record(0, 0), an empty log", x.record(0, 0), NONE);
        due("record(1, 0), an empty log", x.record(1, 0), NONE);
        x = begun(1);
        x.add(1, 1, 1, 1);
        x.add(1, 2, 2, 2);
        for (int what = 0; what < 7; what++) {
            for (int n : new int[] {MIN, -1, 0, 3, 128, 129, 1 << 30, MAX}) {
                due("record(" + n + ", " + what + ")", x.record(n, what), NONE);
            }
        }
        for (int what : new int[] {MIN, -1, 7, 8, MAX}) {
            due("record(1, " + what + ")", x.record(1, what), NONE);
            due("record(2, " + what + ")", x.record(2, what), NONE);
        }
        due("record(2, 0)", x.record(2, 0), 1);
        due("record(2, 6)", x.record(2, 6), 0);
        x.loss(1);
        due("record(1, 5), kept", x.record(1, 5), 1);
        due("record(2, 5), lost", x.record(2, 5), NONE);
    }

    private static void countsOfAllRestarts() {
        RestartBook x = begun(1);
        x.add(1, 0, 0, 1);
        x.add(1, 1, 0, 1);
        x.write(0);
        due("loss(1)", x.loss(1), 2);
        due("restart", x.restart(MAX), 2 + 2 + 3);
        due("counts", counts(x), "5 2 2 1 1 2");
        due("loss(0)", x.loss(0), 2);
        due("counts: a loss takes none", counts(x), "2 2 2 1 1 2");
        due("restart(3)", x.restart(3), 3);
        due("counts", counts(x), "2 2 4 1 2 2");
        due("loss(0)", x.loss(0), 2);
        due("restart(5)", x.restart(5), 5);
        due("counts", counts(x), "3 2 6 2 3 3");
    }

    private static void countsOfRestartsAlone() {
        RestartBook x = begun(2);
        x.add(1, 0, 0, 1);
        x.add(2, 0, 0, 1);
        x.back(1, 0);
        x.abort(2);
        due("counts", counts(x), "6 0 0 0 0 0");
    }

    private static void countOutside() {
        RestartBook x = downWithAllParts();
        for (int i = 0; i < 2; i++) {
            for (int what : new int[] {MIN, -1, 6, MAX}) {
                due("count(" + what + ")", x.count(what), OUTSIDE);
            }
            x.restart(MAX);
        }
        due("count(5)", x.count(5), 2);
        due("count(0)", x.count(0), 9);
    }
}
