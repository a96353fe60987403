import java.math.BigInteger;
import java.util.ArrayList;
import java.util.List;

/** Each sentence of the sixteen promises that names an edge, by a test of its own. */
public final class EdgesTest {
    private static final int BAD = Scene.BAD, NO = Scene.NO, FULL = Scene.FULL, NONE = Scene.NONE, SPENT = Scene.SPENT;
    private static final int ASKING = Scene.ASKING, TOKEN = Scene.TOKEN, TREE = Scene.TREE;
    private static final int LEAST = Scene.LEAST, GREATEST = Scene.GREATEST;

    private EdgesTest() {
    }

    private static void due(String call, long got, long want) {
        Check.due("EdgesTest, " + call, got, want);
    }

    public static void main(String[] args) {
        promises1To3();
        promises4To6();
        promise7();
        promise8();
        promises9To11();
        promises12And13();
        promises14To16();
        Check.end();
    }

    private static KeyKeepers made(int way, int n) {
        return Scene.made(way, n);
    }

    private static void promises1To3() {
        newHasTwoByAsking();
        newHasNothingElse();
        newIsApartFromOthers();
        beginTakesTheWaysToldAlone();
        beginTakesTwoToSixAlone();
        beginMakesAllAsAtFirst();
        beginForgetsEntriesCountsActs();
        beginMakesParents();
        beginIsFullThe11thTime();
        beginDoesNotCountWhatIsBad();
        parentTellsWhatItWas();
        parentSetsHoldersAsAtFirst();
        parentTakesTheLeastAndTheGreatest();
        parentIsBadForKeeper0();
        parentIsBadForNoKeeper();
        parentIsBadForPNotBelowI();
        parentIsNoByOtherWays();
        parentIsNoAfterEachAct();
        parentIsNoAfterAnActTakenBack();
        parentIsNotHinderedByWhatIsNoAct();
        parentIsFreeAgainSinceBegin();
    }

    private static void promises4To6() {
        wantIs1IfInAnd0IfItWaits();
        wantIsBadForNoKeeper();
        wantIsNoIfItWaits();
        wantIsNoIfItIsIn();
        wantIsFullByOneLetterTooMany();
        leaveTellsHowManyItSent();
        leaveIsBadForNoKeeper();
        leaveIsNoIfItIsNotIn();
        leaveIsFullByOneLetterTooMany();
        comeTellsTheKind();
        comeIsBadForNoPair();
        comeIsNoIfNoneIsUnderWay();
        comeIsFullByOneLetterTooMany();
    }

    private static void promise7() {
        runTakes1To100();
        runTakesSeedsFrom0();
        runEndsIfNothingIsUnderWay();
        runEndsBeforeOneThatIsFull();
        runBringsAHundred();
        runTakesTheSeedItself();
        runGoesOnByTheSeed();
        runActsAreTakenBackOneByOne();
    }

    private static void promise8() {
        keeperIsBadForNoKeeper();
        keeperIsBadForNoWhat();
        keeperTellsTheClockByAskingAlone();
        keeperTellsTimeOrHowOftenItAsked();
        keeperTellsWhatIsToComeIfItWaits();
        keeperTellsPutOffByAskingAlone();
        keeperTellsTheTokenNeverByAsking();
        keeperTellsNoTokenUnderWay();
        keeperTellsHolderByTreeAlone();
        keeperTellsAskedByTreeAlone();
        keeperTellsQueueByTreeAlone();
        keeperTellsParentByTreeAboveZeroAlone();
    }

    private static void promises9To11() {
        knowsIsNoneByAsking();
        knowsByTokenIsNoneBeyondKeepers();
        knowsByTreeIsNoneBeyondTheQueue();
        tokenTellsEachKeeper();
        tokenTellsPlacesOfTheRow();
        tokenIsBadBeyond();
        tokenIsNoByOtherWays();
        tokenIsToldUnderWay();
        letterTellsHowManyByMinus1();
        letterTellsEldestToLatest();
        letterHasNumber0Without();
        letterIsNoneBeyondTheLast();
        letterIsBadBeyond();
    }

    private static void promises12And13() {
        entryTellsTheLatestAt0();
        entryTellsLettersSentByThen();
        entryIsNoneBeyond();
        entryIsBadBeyond();
        undoIsNoOfANewObject();
        undoIsNoAfterBegin();
        undoTakesBackEachKindOfAct();
        undoBringsBackTheEntryThatWasLost();
        undoIsNoActItself();
    }

    private static void promises14To16() {
        passTellsHowManyStates();
        passChangesNothing();
        passWritesNoEntries();
        passIsFullThe16thTime();
        passCountsWhatIsSpent();
        passIsFreeAgainSinceBegin();
        passGoesNoWayThatIsFull();
        passedIs0BeforeAny();
        passedStaysWithBegin();
        passedStaysWithAFullPass();
        passedIsOfTheLatest();
        passedTellsEndsAndMost();
        passedIsBadBeyond();
        countTellsEach();
        countIsBadBeyond();
        countTellsEntriesEverAbove60();
        countTellsThirtyActsAtMost();
    }

    // Promise 1: Two KEEPERS by ASKING.

    private static void newHasTwoByAsking() {
        KeyKeepers x = new KeyKeepers();
        due("keepers", x.count(0), 2);
        due("way", x.count(1), ASKING);
        due("keeper 1", x.keeper(1, 0), 0);
        due("keeper 2", x.keeper(2, 0), BAD);
    }

    private static void newHasNothingElse() {
        KeyKeepers x = new KeyKeepers();
        for (int what = 2; what <= 9; what++) {
            due("count", x.count(what), 0);
        }
        due("letters", x.letter(0, 1, -1, 0), 0);
        due("entries", x.entry(0, 0), NONE);
        due("acts", x.undo(), NO);
    }

    private static void newIsApartFromOthers() {
        KeyKeepers x = new KeyKeepers();
        KeyKeepers y = new KeyKeepers();
        x.want(0);
        x.pass();
        due("the other waits not", y.keeper(0, 0), 0);
        due("nothing was gone through", y.passed(0), 0);
    }

    // Promise 2: n KEEPERS by a WAY: n. BAD.

    private static void beginTakesTheWaysToldAlone() {
        KeyKeepers x = new KeyKeepers();
        int[] none = {LEAST, -1, 3, GREATEST};
        for (int way : none) {
            due("way " + way, x.begin(way, 2), BAD);
        }
        for (int way = 0; way <= 2; way++) {
            due("way " + way, x.begin(way, 2), 2);
        }
    }

    private static void beginTakesTwoToSixAlone() {
        KeyKeepers x = new KeyKeepers();
        int[] none = {LEAST, -1, 0, 1, 7, GREATEST};
        for (int n : none) {
            due(n + " keepers", x.begin(TREE, n), BAD);
        }
        due("2 keepers", x.begin(TREE, 2), 2);
        due("6 keepers", x.begin(TREE, 6), 6);
    }

    // All as at first.

    private static void beginMakesAllAsAtFirst() {
        KeyKeepers fresh = new KeyKeepers();
        for (int way = 0; way <= 2; way++) {
            KeyKeepers x = Scene.crowded(8);
            x.begin(TREE, 6);
            x.parent(5, 4);
            x.want(5);
            x.run(3, 0);
            x.begin(ASKING, 6);
            x.want(0);
            x.want(1);
            x.run(7, 5);
            due("begin", x.begin(way, 6), 6);
            fresh.begin(way, 6);
            due("as at first, way " + way, Scene.told(x).equals(Scene.told(fresh)) ? 1 : 0, 1);
        }
    }

    // No ENTRIES, counts, ACTS.

    private static void beginForgetsEntriesCountsActs() {
        KeyKeepers x = made(TREE, 3);
        x.want(0);
        x.want(2);
        x.begin(TREE, 3);
        due("entries", x.entry(0, 0), NONE);
        for (int what = 2; what <= 9; what++) {
            due("count " + what, x.count(what), 0);
        }
        due("acts", x.undo(), NO);
    }

    // In a TREE with PARENT (i - 1) / 2 of i.

    private static void beginMakesParents() {
        int[] parents = {NONE, 0, 0, 1, 1, 2};
        for (int n = 2; n <= 6; n++) {
            KeyKeepers x = made(TREE, n);
            for (int i = 0; i < n; i++) {
                due("the parent of " + i + " of " + n, x.keeper(i, 9), parents[i]);
            }
        }
    }

    // FULL: the 11th time.

    private static void beginIsFullThe11thTime() {
        KeyKeepers x = new KeyKeepers();
        for (int times = 1; times <= 10; times++) {
            due("begin, time " + times, x.begin(times % 3, 2 + times % 5), 2 + times % 5);
        }
        due("the 11th", x.begin(TREE, 2), FULL);
        due("the 12th", x.begin(ASKING, 2), FULL);
        due("still of the 10th", x.count(1), TOKEN);
    }

    private static void beginDoesNotCountWhatIsBad() {
        KeyKeepers x = new KeyKeepers();
        for (int times = 0; times < 20; times++) {
            due("BAD", x.begin(TREE, 7), BAD);
        }
        for (int times = 1; times <= 10; times++) {
            due("begin, time " + times, x.begin(TREE, 2), 2);
        }
        due("the 11th", x.begin(TREE, 2), FULL);
    }

    // Promise 3: The PARENT of KEEPER i (above 0) becomes p: what it was.

    private static void parentTellsWhatItWas() {
        KeyKeepers x = made(TREE, 6);
        due("at first", x.parent(5, 3), 2);
        due("then", x.parent(5, 3), 3);
        due("the same", x.parent(5, 0), 3);
        due("is", x.keeper(5, 9), 0);
    }

    // .. and HOLDERS as at first.

    private static void parentSetsHoldersAsAtFirst() {
        KeyKeepers x = made(TREE, 6);
        x.parent(5, 3);
        x.parent(2, 1);
        int[] holders = {0, 0, 1, 1, 1, 3};
        for (int i = 0; i < 6; i++) {
            due("the holder of " + i, x.keeper(i, 6), holders[i]);
        }
        x.want(5);
        due("it asks its parent", x.letter(5, 3, 0, 0), 0);
    }

    private static void parentTakesTheLeastAndTheGreatest() {
        KeyKeepers x = made(TREE, 6);
        for (int i = 1; i < 6; i++) {
            due("0 of " + i, x.parent(i, 0), (i - 1) / 2);
            due("the one before " + i, x.parent(i, i - 1), 0);
        }
    }

    // BAD: i, p not below i.

    private static void parentIsBadForKeeper0() {
        KeyKeepers x = made(TREE, 3);
        due("of 0", x.parent(0, -1), BAD);
        due("of 0", x.parent(0, 0), BAD);
        due("of 0", x.parent(0, NONE), BAD);
    }

    private static void parentIsBadForNoKeeper() {
        KeyKeepers x = made(TREE, 3);
        int[] none = {LEAST, -1, 3, 6, GREATEST};
        for (int i : none) {
            due("of " + i, x.parent(i, 0), BAD);
            due("of " + i + ", one before", x.parent(i, i - 1), BAD);
        }
    }

    private static void parentIsBadForPNotBelowI() {
        KeyKeepers x = made(TREE, 4);
        int[] none = {LEAST, NONE, -1, 2, 3, 4, GREATEST};
        for (int p : none) {
            due("p " + p, x.parent(2, p), BAD);
        }
        due("as it was", x.keeper(2, 9), 0);
    }

    // NO: not by TREE, or an ACT was done since begin() (taken back or not).

    private static void parentIsNoByOtherWays() {
        due("new", new KeyKeepers().parent(1, 0), NO);
        due("by ASKING", made(ASKING, 3).parent(2, 1), NO);
        due("by TOKEN", made(TOKEN, 3).parent(2, 1), NO);
        due("by TOKEN, BAD", made(TOKEN, 3).parent(3, 1), BAD);
    }

    private static void parentIsNoAfterEachAct() {
        KeyKeepers x = made(TREE, 3);
        x.want(0);
        due("after one was wanted", x.parent(2, 1), NO);
        x.leave(0);
        due("after it left", x.parent(2, 1), NO);
        x.want(1);
        x.come(1, 0);
        due("after one came", x.parent(2, 1), NO);
    }

    private static void parentIsNoAfterAnActTakenBack() {
        KeyKeepers x = made(TREE, 3);
        x.want(1);
        due("taken back", x.undo(), 1);
        due("none is left", x.count(9), 0);
        due("parent", x.parent(2, 1), NO);
        due("as it was", x.keeper(2, 9), 0);
    }

    private static void parentIsNotHinderedByWhatIsNoAct() {
        KeyKeepers x = made(TREE, 3);
        x.want(3);
        x.leave(0);
        x.come(0, 1);
        x.run(100, 0);
        x.undo();
        x.pass();
        x.begin(TREE, 7);
        due("parent", x.parent(2, 1), 0);
        due("and once more", x.parent(2, 0), 1);
    }

    private static void parentIsFreeAgainSinceBegin() {
        KeyKeepers x = made(TREE, 3);
        x.want(0);
        due("an act was done", x.parent(1, 0), NO);
        x.begin(TREE, 3);
        due("since begin", x.parent(1, 0), 0);
    }

    // Promise 4: KEEPER i is WANTED: 1 it is IN, 0 it WAITS. BAD; NO: it is not IDLE.

    private static void wantIs1IfInAnd0IfItWaits() {
        due("by ASKING", made(ASKING, 2).want(0), 0);
        due("by TOKEN, with it", made(TOKEN, 2).want(0), 1);
        due("by TOKEN, without", made(TOKEN, 2).want(1), 0);
        due("by TREE, with it", made(TREE, 2).want(0), 1);
        due("by TREE, without", made(TREE, 2).want(1), 0);
    }

    private static void wantIsBadForNoKeeper() {
        KeyKeepers x = made(ASKING, 4);
        int[] none = {LEAST, -1, 4, 5, 6, GREATEST};
        for (int i : none) {
            due("want " + i, x.want(i), BAD);
        }
        due("nobody waits", x.count(8), 0);
    }

    private static void wantIsNoIfItWaits() {
        for (int way = 0; way <= 2; way++) {
            KeyKeepers x = made(way, 3);
            x.want(1);
            due("want, it waits", x.want(1), NO);
            due("one act", x.count(9), 1);
        }
    }

    private static void wantIsNoIfItIsIn() {
        for (int way = 0; way <= 2; way++) {
            KeyKeepers x = made(way, 2);
            x.want(1);
            x.run(2, 0);
            due("in", x.keeper(1, 0), 2);
            due("want, it is in", x.want(1), NO);
            due("one entry", x.count(2), 1);
        }
    }

    // FULL: a LETTER of it would be one too many.

    private static void wantIsFullByOneLetterTooMany() {
        KeyKeepers x = Scene.crowded(24);
        due("to 1", x.letter(2, 1, -1, 0), 12);
        due("to 0", x.letter(2, 0, -1, 0), 0);
        due("want", x.want(2), FULL);
        due("idle", x.keeper(2, 0), 0);
        due("it did not ask", x.keeper(2, 2), 12);
        due("nothing to 0", x.letter(2, 0, -1, 0), 0);
        due("nothing is counted", x.count(3), 48);
        due("to the one with the token nothing is sent", x.want(0), 1);
    }

    // Promise 5: KEEPER i has LEFT: how many LETTERS it sent. BAD; NO: it is not IN; FULL likewise.

    private static void leaveTellsHowManyItSent() {
        for (int n = 2; n <= 6; n++) {
            due("by ASKING, all put off", Scene.allPutOff(n).leave(0), n - 1);
        }
        due("by TOKEN, one of five", Scene.allAskOne(TOKEN, 6).leave(0), 1);
        due("by TREE, one of one", Scene.allAskOne(TREE, 2).leave(0), 1);
        due("by TREE, and asked for more", Scene.allAskOne(TREE, 6).leave(0), 2);
        KeyKeepers x = made(TOKEN, 2);
        x.want(0);
        due("to nobody", x.leave(0), 0);
    }

    private static void leaveIsBadForNoKeeper() {
        KeyKeepers x = made(TOKEN, 2);
        x.want(0);
        int[] none = {LEAST, -1, 2, 5, 6, GREATEST};
        for (int i : none) {
            due("leave " + i, x.leave(i), BAD);
        }
        due("one is in", x.count(7), 1);
    }

    private static void leaveIsNoIfItIsNotIn() {
        for (int way = 0; way <= 2; way++) {
            KeyKeepers x = made(way, 3);
            due("idle", x.leave(1), NO);
            x.want(1);
            due("waits", x.leave(1), NO);
            due("still waits", x.keeper(1, 0), 1);
        }
    }

    private static void leaveIsFullByOneLetterTooMany() {
        KeyKeepers x = Scene.crowded(24);
        x.want(0);
        x.want(1);
        x.come(1, 0);
        due("twelve", x.letter(0, 1, -1, 0), 12);
        due("leave", x.leave(0), FULL);
        due("still in", x.keeper(0, 0), 2);
        due("with the token", x.keeper(0, 5), 1);
        due("the row", x.token(1, 0), NONE);
        due("nothing is counted", x.count(5), 24);
        due("one comes", x.come(0, 1), 0);
        due("then it can", x.leave(0), 1);
        due("twelve", x.letter(0, 1, -1, 0), 12);
    }

    // Promise 6: A LETTER from i to j COMES: its KIND (0 ASKED, 1 GIVEN, 2 PASSED).

    private static void comeTellsTheKind() {
        KeyKeepers x = made(ASKING, 2);
        x.want(1);
        due("asked", x.come(1, 0), 0);
        due("given", x.come(0, 1), 1);
        for (int way = TOKEN; way <= TREE; way++) {
            KeyKeepers y = made(way, 2);
            y.want(1);
            due("asked", y.come(1, 0), 0);
            due("passed", y.come(0, 1), 2);
        }
    }

    // BAD (i is j, too).

    private static void comeIsBadForNoPair() {
        KeyKeepers x = made(TOKEN, 4);
        x.want(3);
        int[] none = {LEAST, -1, 4, 6, GREATEST};
        for (int one : none) {
            due("from " + one, x.come(one, 0), BAD);
            due("to " + one, x.come(3, one), BAD);
            due("from and to " + one, x.come(one, one), BAD);
        }
        for (int i = 0; i < 4; i++) {
            due(i + " to itself", x.come(i, i), BAD);
        }
        due("all still under way", x.count(6), 3);
    }

    // NO: none is under way.

    private static void comeIsNoIfNoneIsUnderWay() {
        KeyKeepers x = made(ASKING, 3);
        due("at first", x.come(0, 1), NO);
        x.want(0);
        due("the other way", x.come(1, 0), NO);
        due("to one", x.come(0, 1), 0);
        due("no more", x.come(0, 1), NO);
        due("to the other", x.come(0, 2), 0);
        due("three acts", x.count(9), 3);
    }

    // FULL likewise.

    private static void comeIsFullByOneLetterTooMany() {
        KeyKeepers x = Scene.crowded(24);
        x.want(1);
        due("twelve", x.letter(0, 1, -1, 0), 12);
        due("come", x.come(1, 0), FULL);
        due("still under way", x.letter(1, 0, -1, 0), 1);
        due("not known", x.knows(0, 1), 0);
        due("the token is not passed", x.keeper(0, 5), 1);
        due("nothing is counted", x.count(5), 24);
        due("one comes", x.come(0, 1), 0);
        due("then it can", x.come(1, 0), 0);
        due("the token is the twelfth", x.letter(0, 1, 11, 0), 2);
    }

    // Promise 7: k LETTERS (1 to 100) COME. BAD.

    private static void runTakes1To100() {
        KeyKeepers x = Scene.hundredAndOne();
        int[] none = {LEAST, -1, 0, 101, GREATEST};
        for (int k : none) {
            due("k " + k, x.run(k, 0), BAD);
        }
        due("all still under way", x.count(6), 101);
        due("k 1", x.run(1, 0), 1);
        due("k 100", x.run(100, 0), 100);
        due("none is left", x.count(6), 0);
    }

    // The seed (0 or above).

    private static void runTakesSeedsFrom0() {
        KeyKeepers x = made(ASKING, 2);
        x.want(0);
        due("seed -1", x.run(1, -1), BAD);
        due("least seed", x.run(1, LEAST), BAD);
        due("nothing came", x.count(6), 1);
        due("seed 0", x.run(1, 0), 1);
        due("greatest seed", x.run(1, GREATEST), 1);
    }

    // How many came (it ends, too, if nothing is under way ..

    private static void runEndsIfNothingIsUnderWay() {
        KeyKeepers x = made(ASKING, 4);
        due("none at first", x.run(100, 0), 0);
        due("no act", x.count(9), 0);
        x.want(2);
        due("three are given", x.run(100, 9), 6);
        due("none is left", x.run(1, 9), 0);
        due("seven acts", x.count(9), 7);
        due("BAD nevertheless", x.run(0, 9), BAD);
    }

    // .. or one would be FULL).

    private static void runEndsBeforeOneThatIsFull() {
        KeyKeepers x = Scene.crowded(24);
        x.want(1);
        // 0 to 1, 1 to 0, 1 to 2, 2 to 1: the second would be FULL.
        due("the second at once", x.run(100, 1), 0);
        due("nothing came", x.count(6), 26);
        // 6 of four is the third; the seed becomes 22331608, of 0 to 1, 1 to 0, 2 to 1 the second.
        due("the third, then the second", x.run(100, 6), 1);
        due("the third came", x.letter(1, 2, -1, 0), 0);
        due("taken back", x.undo(), 1);
        // 14 of four is the third; the seed becomes 52105029, of three the first.
        due("the third, then the first", x.run(2, 14), 2);
        due("from 1 to 2", x.letter(1, 2, -1, 0), 0);
        due("from 0 to 1", x.letter(0, 1, -1, 0), 11);
        due("then it is not FULL", x.run(1, 1), 1);
        due("from 0 to 1 is the token, too", x.letter(0, 1, -1, 0), 12);
    }

    // Each the one of all pairs with something under way, by who sends, then by who gets, whose number (from 0) is
    // what is left of seed by how many such pairs there are; the seed becomes then itself times 1103515245, and 12345,
    // modulo 2147483648, divided by 8 (cut).

    private static void runBringsAHundred() {
        int[] seeds = {0, 1, 7, 12345, 1103515245, GREATEST - 1, GREATEST};
        for (int seed : seeds) {
            KeyKeepers x = Scene.hundredAndOne();
            int[][] left = underWay(x);
            bringByHand(left, 100, seed);
            due("seed " + seed, x.run(100, seed), 100);
            for (int i = 0; i < 6; i++) {
                for (int j = 0; j < 6; j++) {
                    due("seed " + seed + ", left from " + i + " to " + j, i == j ? 0 : x.letter(i, j, -1, 0), left[i][j]);
                }
            }
        }
    }

    private static int[][] underWay(KeyKeepers x) {
        int[][] many = new int[6][6];
        for (int i = 0; i < 6; i++) {
            for (int j = 0; j < 6; j++) {
                many[i][j] = i == j ? 0 : x.letter(i, j, -1, 0);
            }
        }
        return many;
    }

    private static void bringByHand(int[][] under, int k, int seed) {
        BigInteger drawn = BigInteger.valueOf(seed);
        for (int came = 0; came < k; came++) {
            List<int[]> pairs = new ArrayList<>();
            for (int i = 0; i < under.length; i++) {
                for (int j = 0; j < under.length; j++) {
                    if (under[i][j] > 0) {
                        pairs.add(new int[] {i, j});
                    }
                }
            }
            int[] pair = pairs.get(drawn.mod(BigInteger.valueOf(pairs.size())).intValue());
            under[pair[0]][pair[1]]--;
            drawn = drawn.multiply(BigInteger.valueOf(1103515245)).add(BigInteger.valueOf(12345));
            drawn = drawn.mod(BigInteger.valueOf(2147483648L)).divide(BigInteger.valueOf(8));
        }
    }

    private static void runTakesTheSeedItself() {
        // 2147483647 of 5 pairs is 2; of 3 it would be 1, and divided by 8 before of 5 it would be 0.
        KeyKeepers x = made(ASKING, 6);
        x.want(4);
        due("one", x.run(1, GREATEST), 1);
        for (int j = 0; j < 6; j++) {
            due("to " + j, j == 4 ? 1 : x.letter(4, j, -1, 0), j == 2 ? 0 : 1);
        }
        due("the first by who sends, seed 0", x.run(1, 0), 1);
        due("it is what 2 gave", x.letter(2, 4, -1, 0), 0);
    }

    private static void runGoesOnByTheSeed() {
        KeyKeepers x = made(ASKING, 5);
        x.want(0);
        x.want(1);
        due("two", x.run(2, 0), 2);
        due("the first came", x.letter(0, 1, -1, 0), 0);
        // 0 becomes 12345 / 8, cut: 1543, and of seven pairs that is 3: behind 0 to 2, 0 to 3, 0 to 4 it is 1 to 0.
        due("the fourth of seven came", x.letter(1, 0, -1, 0), 1);
        due("it was what 1 asked", x.letter(1, 0, 0, 0), 1);
    }

    private static void runActsAreTakenBackOneByOne() {
        KeyKeepers x = made(ASKING, 3);
        x.want(0);
        due("four", x.run(100, 0), 4);
        due("each is an act", x.count(9), 5);
        due("the last", x.undo(), 1);
        due("it waits", x.keeper(0, 0), 1);
        due("one is under way", x.count(6), 1);
        due("one comes again", x.run(100, 0), 1);
        due("in", x.keeper(0, 0), 2);
    }

    // Promise 8: Of KEEPER i: .. BAD.

    private static void keeperIsBadForNoKeeper() {
        int[] none = {LEAST, -1, 3, 6, GREATEST};
        for (int way = 0; way <= 2; way++) {
            KeyKeepers x = made(way, 3);
            for (int i : none) {
                for (int what = 0; what <= 9; what++) {
                    due("keeper(" + i + ", " + what + ")", x.keeper(i, what), BAD);
                }
            }
        }
    }

    private static void keeperIsBadForNoWhat() {
        int[] none = {LEAST, -1, 10, GREATEST};
        for (int way = 0; way <= 2; way++) {
            KeyKeepers x = made(way, 3);
            for (int what : none) {
                due("keeper(0, " + what + ")", x.keeper(0, what), BAD);
                due("keeper(2, " + what + ")", x.keeper(2, what), BAD);
                due("keeper(3, " + what + ")", x.keeper(3, what), BAD);
            }
        }
    }

    // 1 its CLOCK (ASKING; else 0).

    private static void keeperTellsTheClockByAskingAlone() {
        due("by ASKING", waiting(ASKING).keeper(1, 1), 1);
        due("by TOKEN", waiting(TOKEN).keeper(1, 1), 0);
        due("by TREE", waiting(TREE).keeper(1, 1), 0);
    }

    /** Keeper 1 waits, and all that it sent is under way. */
    private static KeyKeepers waiting(int way) {
        KeyKeepers x = made(way, 3);
        due("waits", x.want(1), 0);
        return x;
    }

    // 2 its TIME, or how often it asked (TOKEN; TREE: 0).

    private static void keeperTellsTimeOrHowOftenItAsked() {
        due("by ASKING", waiting(ASKING).keeper(1, 2), 1);
        due("by TOKEN", waiting(TOKEN).keeper(1, 2), 1);
        due("by TREE", waiting(TREE).keeper(1, 2), 0);
        KeyKeepers x = Scene.crowded(4);
        due("twice", x.keeper(2, 2), 2);
        due("never", x.keeper(1, 2), 0);
        x.want(0);
        due("in at once, it did not ask", x.keeper(0, 2), 2);
    }

    // 3 from how many GIVEN has still to come (ASKING, if it WAITS; else 0).

    private static void keeperTellsWhatIsToComeIfItWaits() {
        KeyKeepers x = waiting(ASKING);
        due("from both", x.keeper(1, 3), 2);
        due("idle", x.keeper(0, 3), 0);
        x.come(1, 0);
        x.come(0, 1);
        due("from one", x.keeper(1, 3), 1);
        x.come(1, 2);
        due("given, but under way", x.keeper(1, 3), 1);
        x.come(2, 1);
        due("in", x.keeper(1, 3), 0);
        x.leave(1);
        due("left", x.keeper(1, 3), 0);
        due("by TOKEN", waiting(TOKEN).keeper(1, 3), 0);
        due("by TREE", waiting(TREE).keeper(1, 3), 0);
    }

    // 4 those PUT OFF (bits).

    private static void keeperTellsPutOffByAskingAlone() {
        due("1 to 5", Scene.allPutOff(6).keeper(0, 4), 62);
        due("1", Scene.allPutOff(2).keeper(0, 4), 2);
        due("nobody", Scene.allPutOff(6).keeper(5, 4), 0);
        due("by TOKEN", Scene.allAskOne(TOKEN, 6).keeper(0, 4), 0);
        due("by TREE", Scene.allAskOne(TREE, 6).keeper(0, 4), 0);
    }

    // 5 whether it has the TOKEN (1, 0; ASKING: 0).

    private static void keeperTellsTheTokenNeverByAsking() {
        KeyKeepers x = Scene.allPutOff(3);
        due("in by ASKING", x.keeper(0, 5), 0);
        due("idle by ASKING", new KeyKeepers().keeper(0, 5), 0);
        for (int way = TOKEN; way <= TREE; way++) {
            KeyKeepers y = made(way, 3);
            due("0", y.keeper(0, 5), 1);
            due("1", y.keeper(1, 5), 0);
            due("2", y.keeper(2, 5), 0);
        }
    }

    private static void keeperTellsNoTokenUnderWay() {
        for (int way = TOKEN; way <= TREE; way++) {
            KeyKeepers x = made(way, 3);
            x.want(2);
            x.come(2, 0);
            due("passed", x.letter(0, 2, 0, 0), 2);
            for (int i = 0; i < 3; i++) {
                due("with " + i, x.keeper(i, 5), 0);
            }
            x.come(0, 2);
            due("with 2", x.keeper(2, 5), 1);
        }
    }

    // 6 its HOLDER (TREE; else NONE).

    private static void keeperTellsHolderByTreeAlone() {
        due("by ASKING", waiting(ASKING).keeper(1, 6), NONE);
        due("by TOKEN", waiting(TOKEN).keeper(1, 6), NONE);
        due("by TREE", waiting(TREE).keeper(1, 6), 0);
        due("by TREE, itself", waiting(TREE).keeper(0, 6), 0);
    }

    // 7 whether it has ASKED (TREE; else 0).

    private static void keeperTellsAskedByTreeAlone() {
        due("by ASKING", waiting(ASKING).keeper(1, 7), 0);
        due("by TOKEN", waiting(TOKEN).keeper(1, 7), 0);
        KeyKeepers x = waiting(TREE);
        due("by TREE", x.keeper(1, 7), 1);
        due("by TREE, not", x.keeper(2, 7), 0);
        x.run(2, 0);
        due("in, no more", x.keeper(1, 7), 0);
    }

    // 8 how many stand in its QUEUE (TREE; else 0).

    private static void keeperTellsQueueByTreeAlone() {
        due("by ASKING", Scene.allPutOff(6).keeper(0, 8), 0);
        due("by TOKEN", Scene.allAskOne(TOKEN, 6).keeper(0, 8), 0);
        due("by TREE", Scene.allAskOne(TREE, 6).keeper(0, 8), 5);
        due("by TREE, itself", Scene.allAskOne(TREE, 6).keeper(5, 8), 1);
        due("by TREE, empty", made(TREE, 6).keeper(5, 8), 0);
    }

    // 9 its PARENT (NONE: 0, not by TREE).

    private static void keeperTellsParentByTreeAboveZeroAlone() {
        due("0", made(TREE, 6).keeper(0, 9), NONE);
        due("1", made(TREE, 6).keeper(1, 9), 0);
        due("5", made(TREE, 6).keeper(5, 9), 2);
        for (int way = ASKING; way <= TOKEN; way++) {
            due("0, way " + way, made(way, 6).keeper(0, 9), NONE);
            due("5, way " + way, made(way, 6).keeper(5, 9), NONE);
        }
    }

    // Promise 9: By TOKEN what KEEPER i knows of j; by TREE place j of its QUEUE. NONE: by ASKING; no such place.

    private static void knowsIsNoneByAsking() {
        KeyKeepers x = Scene.allPutOff(3);
        int[] numbers = {LEAST, -1, 0, 1, 2, 3, GREATEST};
        for (int i : numbers) {
            for (int j : numbers) {
                due("by ASKING, " + i + ", " + j, x.knows(i, j), NONE);
            }
        }
    }

    private static void knowsByTokenIsNoneBeyondKeepers() {
        KeyKeepers x = Scene.allAskOne(TOKEN, 4);
        due("of the last", x.knows(0, 3), 1);
        due("of itself", x.knows(3, 3), 1);
        due("not yet", x.knows(1, 3), 0);
        int[] none = {LEAST, -1, 4, 5, 6, GREATEST};
        for (int one : none) {
            due("of " + one, x.knows(0, one), NONE);
            due("by " + one, x.knows(one, 0), NONE);
            due("by and of " + one, x.knows(one, one), NONE);
        }
    }

    private static void knowsByTreeIsNoneBeyondTheQueue() {
        KeyKeepers x = Scene.allAskOne(TREE, 4);
        due("the first", x.knows(0, 0), 3);
        due("the last", x.knows(0, 2), 1);
        due("behind the last, a keeper's number", x.knows(0, 3), NONE);
        due("an own queue", x.knows(3, 0), 3);
        due("an empty queue", made(TREE, 4).knows(3, 0), NONE);
        int[] none = {LEAST, -1, 4, 5, 6, GREATEST};
        for (int one : none) {
            due("place " + one, x.knows(0, one), NONE);
            due("of " + one, x.knows(one, 0), NONE);
            due("place and of " + one, x.knows(one, one), NONE);
        }
    }

    // Promise 10: By TOKEN, what stands on it: for KEEPER k (what = 0), place k of its ROW (1; NONE).

    private static void tokenTellsEachKeeper() {
        KeyKeepers x = Scene.crowded(3);
        due("0", x.token(0, 0), 1);
        due("1", x.token(0, 1), 0);
        due("2", x.token(0, 2), 2);
    }

    private static void tokenTellsPlacesOfTheRow() {
        KeyKeepers x = Scene.allAskOne(TOKEN, 6);
        due("empty", x.token(1, 0), NONE);
        x.leave(0);
        due("the first", x.token(1, 0), 2);
        due("the last", x.token(1, 3), 5);
        due("behind the last", x.token(1, 4), NONE);
        due("the last there could be", x.token(1, 5), NONE);
    }

    // BAD; NO: not by TOKEN.

    private static void tokenIsBadBeyond() {
        KeyKeepers x = made(TOKEN, 4);
        int[] none = {LEAST, -1, 4, 6, GREATEST};
        for (int k : none) {
            due("for " + k, x.token(0, k), BAD);
            due("place " + k, x.token(1, k), BAD);
        }
        int[] noWhat = {LEAST, -1, 2, GREATEST};
        for (int what : noWhat) {
            due("what " + what, x.token(what, 0), BAD);
        }
    }

    private static void tokenIsNoByOtherWays() {
        int[] others = {ASKING, TREE};
        for (int way : others) {
            KeyKeepers x = made(way, 4);
            due("what 0", x.token(0, 0), NO);
            due("what 0, the last", x.token(0, 3), NO);
            due("what 1", x.token(1, 0), NO);
            due("what 1, the last", x.token(1, 3), NO);
            due("what 2", x.token(2, 0), BAD);
            due("none", x.token(0, 4), BAD);
        }
    }

    // (It is told wherever it is, under way, too.)

    private static void tokenIsToldUnderWay() {
        KeyKeepers x = Scene.allAskOne(TOKEN, 3);
        x.leave(0);
        due("under way", x.letter(0, 1, 0, 0), 2);
        due("the row", x.token(1, 0), 2);
        due("what stands", x.token(0, 1), 0);
        x.come(0, 1);
        due("the row, come", x.token(1, 0), 2);
        x.leave(1);
        due("under way again", x.token(0, 1), 1);
        due("the row is empty", x.token(1, 0), NONE);
    }

    // Promise 11: How many LETTERS are under way from i to j; of that at place k (from 0, the eldest): what = 0 KIND,
    // 1 number (0 without). k = -1: how many.

    private static void letterTellsHowManyByMinus1() {
        KeyKeepers x = Scene.crowded(24);
        due("none", x.letter(1, 0, -1, 0), 0);
        due("none, what 1", x.letter(1, 0, -1, 1), 0);
        due("twelve", x.letter(0, 1, -1, 0), 12);
        due("twelve, what 1", x.letter(0, 1, -1, 1), 12);
    }

    private static void letterTellsEldestToLatest() {
        KeyKeepers x = Scene.crowded(24);
        due("eldest", x.letter(0, 1, 0, 1), 1);
        due("latest", x.letter(0, 1, 11, 1), 12);
        due("its kind", x.letter(0, 1, 11, 0), 0);
        x.come(0, 1);
        due("eldest then", x.letter(0, 1, 0, 1), 2);
        due("latest then", x.letter(0, 1, 10, 1), 12);
    }

    private static void letterHasNumber0Without() {
        KeyKeepers x = made(ASKING, 2);
        x.want(0);
        due("asked has a number", x.letter(0, 1, 0, 1), 1);
        x.come(0, 1);
        due("given has none", x.letter(1, 0, 0, 1), 0);
        for (int way = TOKEN; way <= TREE; way++) {
            KeyKeepers y = made(way, 2);
            y.want(1);
            due("asked, way " + way, y.letter(1, 0, 0, 1), way == TOKEN ? 1 : 0);
            y.come(1, 0);
            due("passed has none", y.letter(0, 1, 0, 1), 0);
        }
    }

    // NONE: no such place.

    private static void letterIsNoneBeyondTheLast() {
        KeyKeepers x = Scene.crowded(24);
        due("the 12th", x.letter(0, 1, 11, 1), 12);
        due("the 13th", x.letter(0, 1, 12, 0), NONE);
        due("the 14th", x.letter(0, 1, 13, 1), NONE);
        due("the greatest", x.letter(0, 1, GREATEST, 0), NONE);
        due("none is under way", x.letter(1, 0, 0, 0), NONE);
        due("none is under way", x.letter(1, 0, 0, 1), NONE);
        x.come(2, 1);
        due("the 12th of eleven", x.letter(2, 1, 11, 0), NONE);
    }

    // BAD: k below -1, what.

    private static void letterIsBadBeyond() {
        KeyKeepers x = Scene.crowded(4);
        due("k -2", x.letter(0, 1, -2, 0), BAD);
        due("least k", x.letter(0, 1, LEAST, 0), BAD);
        int[] noWhat = {LEAST, -1, 2, GREATEST};
        for (int what : noWhat) {
            due("what " + what, x.letter(0, 1, 0, what), BAD);
            due("how many, what " + what, x.letter(0, 1, -1, what), BAD);
        }
        int[] none = {LEAST, -1, 3, 6, GREATEST};
        for (int one : none) {
            due("from " + one, x.letter(one, 1, 0, 0), BAD);
            due("to " + one, x.letter(0, one, -1, 0), BAD);
        }
        for (int i = 0; i < 3; i++) {
            due(i + " to itself", x.letter(i, i, -1, 0), BAD);
        }
    }

    // Promise 12: Of the i-th latest ENTRY (0: the latest): 0 the KEEPER, 1 THE WAIT, 2 how many LETTERS by then.

    private static void entryTellsTheLatestAt0() {
        KeyKeepers x = Scene.crowded(3);
        int[] who = {2, 0, 2};
        for (int i = 0; i < 3; i++) {
            due("who", x.entry(i, 0), who[i]);
            due("waited for nobody", x.entry(i, 1), 0);
            due("sent by then", x.entry(i, 2), 9 - 3 * i);
        }
    }

    private static void entryTellsLettersSentByThen() {
        KeyKeepers x = made(TOKEN, 6);
        x.want(0);
        due("nothing was sent", x.entry(0, 2), 0);
        x.want(5);
        due("later ones are not of it", x.entry(0, 2), 0);
        x.come(5, 0);
        x.leave(0);
        x.come(0, 5);
        due("five asked, one passed", x.entry(0, 2), 6);
        due("still nothing", x.entry(1, 2), 0);
    }

    // NONE. BAD.

    private static void entryIsNoneBeyond() {
        KeyKeepers x = new KeyKeepers();
        due("none at first", x.entry(0, 0), NONE);
        due("the greatest", x.entry(GREATEST, 0), NONE);
        KeyKeepers y = Scene.entered(1);
        due("the only", y.entry(0, 0), 0);
        due("the second of one", y.entry(1, 0), NONE);
        due("far", y.entry(59, 2), NONE);
        due("beyond what is kept", y.entry(60, 2), NONE);
        due("the greatest", y.entry(GREATEST, 2), NONE);
        KeyKeepers z = Scene.entered(100);
        due("the 60th latest of 100", z.entry(59, 0), 0);
        due("the 61st latest of 100", z.entry(60, 0), NONE);
        due("the first of 100", z.entry(99, 0), NONE);
        due("one before the first", z.entry(100, 0), NONE);
    }

    private static void entryIsBadBeyond() {
        KeyKeepers x = Scene.entered(2);
        due("-1", x.entry(-1, 0), BAD);
        due("least", x.entry(LEAST, 2), BAD);
        int[] noWhat = {LEAST, -1, 3, GREATEST};
        for (int what : noWhat) {
            due("what " + what, x.entry(0, what), BAD);
        }
        due("what 2", x.entry(1, 2), 0);
    }

    // Promise 13: The latest ACT is taken back, with ENTRIES and counts: 1. NO: there is none.

    private static void undoIsNoOfANewObject() {
        KeyKeepers x = new KeyKeepers();
        due("none", x.undo(), NO);
        due("none", x.undo(), NO);
        due("want", x.want(0), 0);
        due("one", x.undo(), 1);
        due("none", x.undo(), NO);
    }

    private static void undoIsNoAfterBegin() {
        KeyKeepers x = Scene.crowded(10);
        due("thirty", x.count(9), 30);
        x.begin(TOKEN, 3);
        due("none since", x.undo(), NO);
        due("as at first", x.keeper(0, 5), 1);
        x.want(0);
        due("one since", x.undo(), 1);
        due("none", x.undo(), NO);
    }

    private static void undoTakesBackEachKindOfAct() {
        for (int way = 0; way <= 2; way++) {
            KeyKeepers x = made(way, 2);
            KeyKeepers y = made(way, 2);
            x.want(1);
            x.undo();
            due("wanted, way " + way, Scene.told(x).equals(Scene.told(y)) ? 1 : 0, 1);
            x.want(1);
            y.want(1);
            x.come(1, 0);
            x.undo();
            due("asked, way " + way, Scene.told(x).equals(Scene.told(y)) ? 1 : 0, 1);
            x.come(1, 0);
            y.come(1, 0);
            x.come(0, 1);
            x.undo();
            due("came in, way " + way, Scene.told(x).equals(Scene.told(y)) ? 1 : 0, 1);
            x.come(0, 1);
            y.come(0, 1);
            x.leave(1);
            x.undo();
            due("left, way " + way, Scene.told(x).equals(Scene.told(y)) ? 1 : 0, 1);
        }
    }

    private static void undoBringsBackTheEntryThatWasLost() {
        KeyKeepers x = made(TOKEN, 2);
        x.want(1);
        x.come(1, 0);
        x.come(0, 1);
        x.leave(1);
        x.want(0);
        x.come(0, 1);
        x.come(1, 0);
        x.leave(0);
        for (int times = 0; times < 73; times++) {
            x.want(0);
            x.leave(0);
        }
        due("75 entries", x.count(2), 75);
        for (int times = 0; times < 30; times++) {
            due("undo", x.undo(), 1);
        }
        due("60 entries", x.count(2), 60);
        due("the 60th latest", x.entry(59, 0), 1);
        due("sent by then", x.entry(59, 2), 2);
        due("the 59th latest", x.entry(58, 2), 4);
        due("no 61st", x.entry(60, 0), NONE);
        due("no more", x.undo(), NO);
    }

    private static void undoIsNoActItself() {
        KeyKeepers x = made(TREE, 3);
        x.want(0);
        x.leave(0);
        due("two", x.count(9), 2);
        due("undo", x.undo(), 1);
        due("one", x.count(9), 1);
        due("in", x.keeper(0, 0), 2);
        due("want by another", x.want(2), 0);
        due("two", x.count(9), 2);
        due("undo", x.undo(), 1);
        due("undo", x.undo(), 1);
        due("idle", x.keeper(0, 0), 0);
        due("none", x.undo(), NO);
    }

    // Promise 14: All is GONE THROUGH from the STATE that there is: how many STATES; SPENT: not all.

    private static void passTellsHowManyStates() {
        KeyKeepers x = made(ASKING, 2);
        due("idle", x.pass(), 1);
        x.want(0);
        due("asked, given, in, left", x.pass(), 4);
        x.come(0, 1);
        due("given, in, left", x.pass(), 3);
        x.come(1, 0);
        due("in, left", x.pass(), 2);
        x.leave(0);
        due("left", x.pass(), 1);
        x.undo();
        due("in, left", x.pass(), 2);
        KeyKeepers y = made(ASKING, 6);
        y.want(0);
        // 3 ^ 5 and one.
        due("five letters, each in three states", y.pass(), 244);
        y.want(1);
        due("too many", y.pass(), SPENT);
        due("300 are kept", y.passed(0), 300);
    }

    private static void passChangesNothing() {
        for (int way = 0; way <= 2; way++) {
            KeyKeepers x = made(way, 4);
            KeyKeepers y = made(way, 4);
            for (int i = 0; i < 4; i++) {
                x.want(i);
                y.want(i);
            }
            x.pass();
            y.pass();
            x.pass();
            due("way " + way, Scene.told(x).equals(Scene.told(y)) ? 1 : 0, 1);
            due("they go on alike", x.run(100, 77), y.run(100, 77));
            due("way " + way, Scene.told(x).equals(Scene.told(y)) ? 1 : 0, 1);
        }
    }

    private static void passWritesNoEntries() {
        KeyKeepers x = made(TREE, 6);
        for (int times = 0; times < 60; times++) {
            x.want(0);
            x.leave(0);
        }
        for (int i = 1; i < 6; i++) {
            x.want(i);
        }
        due("many come in", x.pass(), SPENT);
        due("none are counted", x.count(2), 60);
        for (int i = 0; i < 60; i++) {
            due("the entry before " + i, x.entry(i, 0), 0);
            due("nothing was sent by then", x.entry(i, 2), 0);
        }
    }

    // FULL: it was done 15 times since the latest begin().

    private static void passIsFullThe16thTime() {
        KeyKeepers x = new KeyKeepers();
        x.want(0);
        for (int times = 1; times <= 15; times++) {
            due("pass, time " + times, x.pass(), 4);
        }
        due("the 16th", x.pass(), FULL);
        due("the 17th", x.pass(), FULL);
        x.undo();
        due("taken back", x.pass(), FULL);
        x.begin(ASKING, 7);
        due("no begin", x.pass(), FULL);
    }

    private static void passCountsWhatIsSpent() {
        KeyKeepers x = made(ASKING, 6);
        x.want(0);
        x.want(1);
        for (int times = 1; times <= 15; times++) {
            due("pass, time " + times, x.pass(), SPENT);
        }
        due("the 16th", x.pass(), FULL);
    }

    private static void passIsFreeAgainSinceBegin() {
        KeyKeepers x = new KeyKeepers();
        for (int begins = 0; begins <= 10; begins++) {
            for (int times = 1; times <= 15; times++) {
                due("pass", x.pass(), 1);
            }
            due("the 16th", x.pass(), FULL);
            due("begin", x.begin(TOKEN, 3), begins < 10 ? 3 : FULL);
        }
        due("the 11th is none", x.pass(), FULL);
    }

    // (A COMING, LEFT on the way that would be FULL is not gone: passed(5).)

    private static void passGoesNoWayThatIsFull() {
        KeyKeepers x = Scene.crowded(24);
        for (int times = 0; times < 12; times++) {
            x.come(2, 1);
        }
        x.want(1);
        x.come(1, 2);
        // From 0 to 1 are 12 to 0; while they are 12, what 1 asked of 0 can't come. Then the token is behind 11 to 0
        // others, 1 is in, and has left.
        due("13 and 12 and two", x.pass(), 27);
        due("a COMING", x.passed(5), 1);
        x = Scene.crowded(24);
        for (int times = 0; times < 12; times++) {
            x.come(2, 1);
        }
        x.want(0);
        x.want(1);
        x.come(1, 2);
        x.come(1, 0);
        // 0 is in, and can't leave while 12 are under way to 1.
        due("13 and 12 and two", x.pass(), 27);
        due("a LEFT", x.passed(5), 1);
        x.come(0, 1);
        due("12 and 12 and two", x.pass(), 26);
        due("none", x.passed(5), 0);
    }

    // Promise 15: Of the latest pass() that was not FULL (0 before any; begin() does not change it).

    private static void passedIs0BeforeAny() {
        KeyKeepers x = new KeyKeepers();
        x.want(0);
        passed(x, 0, 0, 0, 0, 0, 0, 0);
        x.begin(TREE, 4);
        passed(x, 0, 0, 0, 0, 0, 0, 0);
    }

    private static void passed(KeyKeepers x, int... wants) {
        for (int what = 0; what <= 6; what++) {
            due("passed(" + what + ")", x.passed(what), wants[what]);
        }
    }

    private static void passedStaysWithBegin() {
        KeyKeepers x = made(ASKING, 3);
        x.want(2);
        due("pass", x.pass(), 10);
        x.begin(TOKEN, 5);
        passed(x, 10, 1, 1, 0, 0, 0, 2);
        x.want(0);
        x.undo();
        passed(x, 10, 1, 1, 0, 0, 0, 2);
    }

    private static void passedStaysWithAFullPass() {
        KeyKeepers x = made(ASKING, 3);
        x.want(2);
        for (int times = 0; times < 15; times++) {
            x.pass();
        }
        x.run(100, 0);
        due("pass", x.pass(), FULL);
        passed(x, 10, 1, 1, 0, 0, 0, 2);
    }

    private static void passedIsOfTheLatest() {
        KeyKeepers x = made(ASKING, 6);
        x.want(0);
        x.want(1);
        due("pass", x.pass(), SPENT);
        due("states", x.passed(0), 300);
        x.begin(TREE, 2);
        due("pass", x.pass(), 1);
        passed(x, 1, 1, 0, 0, 0, 0, 0);
    }

    // 1 ENDS, 2 the most KEEPERS IN in one STATE, 3 ENDS in which one WAITS, 4 STATES in which nobody is IN, no TOKEN is
    // under way or with anybody (not by ASKING), 5 ways that were not gone, 6 the most LETTERS under way in one STATE.

    private static void passedTellsEndsAndMost() {
        for (int way = 0; way <= 2; way++) {
            KeyKeepers x = made(way, 2);
            x.want(0);
            x.want(1);
            x.pass();
            due("one end, way " + way, x.passed(1), 1);
            due("one in at most", x.passed(2), 1);
            due("nobody waits at an end", x.passed(3), 0);
            due("the token is never lost", x.passed(4), 0);
            due("nothing is FULL", x.passed(5), 0);
            due("letters", x.passed(6), way == ASKING ? 2 : 1);
        }
        KeyKeepers y = made(TOKEN, 3);
        y.want(1);
        y.want(2);
        y.pass();
        due("the token ends with 1 or with 2", y.passed(1), 2);
        due("four asked at first, then one of them is answered", y.passed(6), 4);
    }

    // BAD.

    private static void passedIsBadBeyond() {
        KeyKeepers x = new KeyKeepers();
        int[] none = {LEAST, -1, 7, GREATEST};
        for (int what : none) {
            due("passed " + what, x.passed(what), BAD);
        }
        due("passed 6", x.passed(6), 0);
    }

    // Promise 16: How many: 0 KEEPERS, 1 the WAY, 2 ENTRIES ever, 3 to 5 LETTERS sent by KINDS, 6 under way, 7 IN,
    // 8 that WAIT, 9 ACTS that can be taken back. BAD.

    private static void countTellsEach() {
        KeyKeepers x = Scene.allAskOne(TREE, 6);
        int[] atFirst = {6, 2, 1, 5, 0, 0, 0, 1, 5, 11};
        for (int what = 0; what <= 9; what++) {
            due("count " + what, x.count(what), atFirst[what]);
        }
        x.leave(0);
        int[] then = {6, 2, 1, 6, 0, 1, 2, 0, 5, 12};
        for (int what = 0; what <= 9; what++) {
            due("count " + what + ", left", x.count(what), then[what]);
        }
        KeyKeepers y = Scene.allPutOff(6);
        y.leave(0);
        int[] given = {6, 0, 1, 30, 10, 0, 25, 0, 5, 22};
        for (int what = 0; what <= 9; what++) {
            due("count " + what + ", by ASKING", y.count(what), given[what]);
        }
    }

    private static void countIsBadBeyond() {
        KeyKeepers x = new KeyKeepers();
        int[] none = {LEAST, -1, 10, GREATEST};
        for (int what : none) {
            due("count " + what, x.count(what), BAD);
        }
    }

    private static void countTellsEntriesEverAbove60() {
        KeyKeepers x = Scene.entered(200);
        due("ever", x.count(2), 200);
        due("taken back", x.undo(), 1);
        due("ever", x.count(2), 199);
    }

    private static void countTellsThirtyActsAtMost() {
        KeyKeepers x = Scene.entered(15);
        due("29", x.count(9), 29);
        x.leave(0);
        due("30", x.count(9), 30);
        x.want(0);
        due("still 30", x.count(9), 30);
        x.undo();
        due("29 again", x.count(9), 29);
    }
}
