/** Each sentence at the head of the document and in its Terms that names an edge, by a test of its own. */
public final class TermsTest {
    private static final int BAD = Scene.BAD, NO = Scene.NO, FULL = Scene.FULL, NONE = Scene.NONE, SPENT = Scene.SPENT;
    private static final int ASKING = Scene.ASKING, TOKEN = Scene.TOKEN, TREE = Scene.TREE;
    private static final int[] ODD = {
        Integer.MIN_VALUE, -13, -2, -1, 0, 1, 2, 3, 4, 5, 6, 7, 9, 10, 12, 59, 60, 100, 101, Integer.MAX_VALUE
    };

    private TermsTest() {
    }

    private static void due(String call, long got, long want) {
        Check.due("TermsTest, " + call, got, want);
    }

    public static void main(String[] args) {
        head();
        keepersAndLetters();
        asking();
        token();
        tree();
        entriesAndActs();
        goneThrough();
        refusals();
        Check.end();
    }

    private static KeyKeepers made(int way, int n) {
        return Scene.made(way, n);
    }

    /** The head, and the public face. */
    private static void head() {
        answersTheLastOf512Calls();
        neverThrows();
        tellsTheConstants();
    }

    private static void keepersAndLetters() {
        hasTwoToSixKeepersByEachWay();
        numbersKeepersFrom0();
        knowsNoKeeperBeyond();
        isIdleAtFirst();
        bringsLettersInTheOrderSent();
        holdsTheTwelfthLetter();
        holdsNoThirteenthLetter();
        holdsTwelveInEachDirection();
        waitsOrIsInAtOnce();
        isIdleOnceItLeft();
    }

    private static void asking() {
        startsClocksAt0();
        countsTheClockUpAsItIsWanted();
        setsTheClockAboveAGreaterTime();
        setsTheClockAboveALikeTime();
        keepsAGreaterClockGoingOn();
        putsOffWhenIn();
        putsOffALaterTime();
        putsOffALaterTimeOfALesserNumber();
        putsOffALikeTimeOfAGreaterNumber();
        givesALikeTimeOfALesserNumber();
        givesAnEarlierTime();
        givesAnEarlierTimeOfAGreaterNumber();
        givesWhenIdle();
        isInByTheOnlyGiven();
        isInByTheLastOfFiveGiven();
        needsGivenAnew();
        givesToNobodyAsItLeft();
        givesToAllPutOffAsItLeft();
        putsOffNobodyAnyMore();
    }

    private static void token() {
        startsWithKeeper0();
        isInWithTheTokenAndAsksNobody();
        asksOfAllWithoutTheToken();
        asksWhileTheTokenIsUnderWay();
        passesToOneThatAskedOnceMore();
        doesNotPassWithoutTheToken();
        doesNotPassWhenIn();
        doesNotPassOnAnOldNumber();
        doesNotPassTwice();
        keepsTheTokenWithAnEmptyRow();
        writesNothingForOneThatDidNotAsk();
        writesWhatItAskedAsItLeft();
        rowsByNumbers();
        rowsBehindTheRow();
        rowsNobodyTwice();
        rowsAllOthers();
    }

    private static void tree() {
        holdsByThePathTo0();
        isInAtOnceAtTheRoot();
        queuesWhileIn();
        keepsTheTokenWithAnEmptyQueue();
        passesToTheOnlyOne();
        passesThenAsks();
        asksButOnce();
        isInAsTheFirstOfItsQueue();
        queuesAllNeighbours();
    }

    private static void entriesAndActs() {
        tells59Entries();
        tells60Entries();
        tellsTheLatest60Of61();
        countsByKinds();
        waitsForNobody();
        waitsForEachEntrySince();
        waitsForTheSameTwice();
        takesBack29();
        takesBack30();
        takesBackTheLatest30Of31();
    }

    private static void goneThrough() {
        findsOneStateWhenIdle();
        findsTwoStatesWhenOneIsIn();
        findsAStateOnce();
        findsStatesAlikeByOtherCounts();
        findsEndsAlikeByOtherEntries();
        finds299();
        finds300();
        isSpentBy301();
        isSpentAtAnyWay();
        findsNoEndInWhatBringsAny();
    }

    private static void refusals() {
        isBadBeforeNo();
        isBadBeforeFull();
        isNoBeforeFull();
        changesNothingWhenBad();
        changesNothingWhenNo();
        changesNothingWhenFull();
    }

    // An object is used for at most 512 calls after it has been made.

    private static void answersTheLastOf512Calls() {
        KeyKeepers x = made(TOKEN, 2);
        for (int times = 0; times < 255; times++) {
            due("want", x.want(0), 1);
            due("leave", x.leave(0), 0);
        }
        due("the 512th call", x.count(2), 255);
    }

    // What later calls answer is free; but no call may ever throw (LANGUAGE.md, 7).

    private static void neverThrows() {
        for (int way = ASKING; way <= TREE; way++) {
            for (int n = 2; n <= 6; n++) {
                KeyKeepers x = made(way, n);
                int drawn = 17 * way + n;
                for (int calls = 0; calls < 3000; calls++) {
                    drawn = drawn * 1103515245 + 12345;
                    callOddly(x, drawn >>> 4);
                }
                due("it still tells its way", x.count(1), way);
            }
        }
    }

    private static int callOddly(KeyKeepers x, int drawn) {
        int i = odd(drawn / 14);
        int j = odd(drawn / 280);
        int k = odd(drawn / 5600);
        switch (drawn % 14) {
            case 0: return x.begin(i, 7 + Math.abs(j % 5));
            case 1: return x.parent(i, j);
            case 2: return x.want(i);
            case 3: return x.leave(i);
            case 4: return x.come(i, j);
            case 5: return x.run(i, j);
            case 6: return x.keeper(i, j);
            case 7: return x.knows(i, j);
            case 8: return x.token(i, j);
            case 9: return x.letter(i, j, k, odd(drawn / 112000));
            case 10: return x.entry(i, j);
            case 11: return x.undo();
            case 12: return x.pass();
            default: return x.passed(i) + x.count(j);
        }
    }

    private static int odd(int drawn) {
        return ODD[drawn % ODD.length];
    }

    // BAD = -1, NO = -2, FULL = -3, NONE = -4, SPENT = -5

    private static void tellsTheConstants() {
        due("BAD", KeyKeepers.BAD, -1);
        due("NO", KeyKeepers.NO, -2);
        due("FULL", KeyKeepers.FULL, -3);
        due("NONE", KeyKeepers.NONE, -4);
        due("SPENT", KeyKeepers.SPENT, -5);
    }

    // KEEPERS 0 to n - 1 (n from 2 to 6) by a WAY: 0 ASKING, 1 TOKEN, 2 TREE.

    private static void hasTwoToSixKeepersByEachWay() {
        for (int way = ASKING; way <= TREE; way++) {
            KeyKeepers x = new KeyKeepers();
            due("one keeper, way " + way, x.begin(way, 1), BAD);
            for (int n = 2; n <= 6; n++) {
                due(n + " keepers, way " + way, x.begin(way, n), n);
                due("so many", x.count(0), n);
                due("that way", x.count(1), way);
            }
            due("seven keepers, way " + way, x.begin(way, 7), BAD);
        }
        due("way -1", new KeyKeepers().begin(-1, 2), BAD);
        due("way 3", new KeyKeepers().begin(3, 2), BAD);
    }

    private static void numbersKeepersFrom0() {
        for (int n = 2; n <= 6; n++) {
            KeyKeepers x = made(ASKING, n);
            due("the first", x.want(0), 0);
            due("the last", x.want(n - 1), 0);
            due("from the first to the last", x.letter(0, n - 1, -1, 0), 1);
        }
    }

    private static void knowsNoKeeperBeyond() {
        for (int n = 2; n <= 6; n++) {
            KeyKeepers x = made(TOKEN, n);
            due("the one before 0", x.want(-1), BAD);
            due("the one behind the last", x.want(n), BAD);
            due("the last of all, if it is none", x.want(6), BAD);
        }
    }

    // One is IDLE (at first), WAITS or is IN.

    private static void isIdleAtFirst() {
        for (int way = ASKING; way <= TREE; way++) {
            KeyKeepers x = made(way, 6);
            for (int i = 0; i < 6; i++) {
                due("at first", x.keeper(i, 0), 0);
            }
        }
    }

    // Those from one to another come in the order in which they were sent.

    private static void bringsLettersInTheOrderSent() {
        KeyKeepers x = Scene.crowded(24);
        for (int number = 1; number <= 12; number++) {
            due("the eldest", x.letter(2, 1, 0, 1), number);
            due("the latest", x.letter(2, 1, 12 - number, 1), 12);
            due("it comes", x.come(2, 1), 0);
            due("it is known", x.knows(1, 2), number);
        }
        due("no more", x.come(2, 1), NO);
    }

    // 12 at most are under way between two, in each direction.

    private static void holdsTheTwelfthLetter() {
        KeyKeepers x = Scene.crowded(22);
        due("eleven", x.letter(2, 1, -1, 0), 11);
        due("the twelfth", x.want(2), 0);
        due("twelve", x.letter(2, 1, -1, 0), 12);
        due("its number", x.letter(2, 1, 11, 1), 12);
    }

    private static void holdsNoThirteenthLetter() {
        KeyKeepers x = Scene.crowded(24);
        due("twelve", x.letter(2, 1, -1, 0), 12);
        due("the thirteenth", x.want(2), FULL);
        due("still twelve", x.letter(2, 1, -1, 0), 12);
        due("one comes", x.come(2, 1), 0);
        due("then it is the twelfth", x.want(2), 0);
        due("twelve", x.letter(2, 1, -1, 0), 12);
    }

    private static void holdsTwelveInEachDirection() {
        KeyKeepers x = Scene.bothWays(12);
        due("from 0 to 1", x.letter(0, 1, -1, 0), 12);
        due("from 1 to 0", x.letter(1, 0, -1, 0), 12);
        due("one more from 0", x.want(0), FULL);
        due("one more from 1", x.want(1), FULL);
        due("one from 0 comes", x.come(0, 1), 0);
        due("from 1 there still are twelve", x.want(1), FULL);
        due("from 0 there are eleven", x.want(0), 0);
        due("from 0 to 1", x.letter(0, 1, -1, 0), 12);
    }

    // WANTED: an IDLE KEEPER WAITS from now on; it is IN at once if nothing is to be waited for.

    private static void waitsOrIsInAtOnce() {
        for (int way = ASKING; way <= TREE; way++) {
            KeyKeepers x = made(way, 2);
            due("1, way " + way, x.want(1), 0);
            due("it waits", x.keeper(1, 0), 1);
            due("0, way " + way, x.want(0), way == ASKING ? 0 : 1);
            due("it waits, or is in", x.keeper(0, 0), way == ASKING ? 1 : 2);
        }
    }

    // LEFT: one that is IN is IDLE from now on.

    private static void isIdleOnceItLeft() {
        for (int way = ASKING; way <= TREE; way++) {
            KeyKeepers x = made(way, 2);
            x.want(0);
            x.run(2, 0);
            due("in, way " + way, x.keeper(0, 0), 2);
            due("left", x.leave(0), 0);
            due("idle", x.keeper(0, 0), 0);
            due("not once more", x.leave(0), NO);
        }
    }

    // ASKING: each KEEPER has a CLOCK (0 at first).

    private static void startsClocksAt0() {
        KeyKeepers x = made(ASKING, 6);
        for (int i = 0; i < 6; i++) {
            due("the clock of " + i, x.keeper(i, 1), 0);
            due("the time of " + i, x.keeper(i, 2), 0);
        }
    }

    // WANTED: its CLOCK is one more, and its TIME; ASKED with TIME goes to all others.

    private static void countsTheClockUpAsItIsWanted() {
        KeyKeepers x = made(ASKING, 6);
        x.want(2);
        x.come(2, 4);
        x.want(4);
        due("clock", x.keeper(4, 1), 3);
        due("time", x.keeper(4, 2), 3);
        for (int j = 0; j < 6; j++) {
            if (j != 4) {
                int place = j == 2 ? 1 : 0;
                due("to " + j, x.letter(4, j, -1, 0), place + 1);
                due("asked", x.letter(4, j, place, 0), 0);
                due("with its time", x.letter(4, j, place, 1), 3);
            }
        }
        due("no others", x.count(6), 10);
    }

    // The CLOCK of i is one more than the greater of it and t.

    private static void setsTheClockAboveAGreaterTime() {
        KeyKeepers x = made(ASKING, 2);
        x.want(0);
        due("0 and 1", x.come(0, 1), 0);
        due("clock", x.keeper(1, 1), 2);
    }

    private static void setsTheClockAboveALikeTime() {
        KeyKeepers x = made(ASKING, 2);
        x.want(0);
        x.want(1);
        due("1 and 1", x.come(0, 1), 0);
        due("clock", x.keeper(1, 1), 2);
        due("the time stays", x.keeper(1, 2), 1);
    }

    private static void keepsAGreaterClockGoingOn() {
        KeyKeepers x = made(ASKING, 3);
        x.want(0);
        x.want(2);
        x.come(2, 1);
        due("2 and 1", x.come(0, 1), 0);
        due("clock", x.keeper(1, 1), 3);
    }

    // If i is IN, or WAITS with a TIME below t, or with that TIME and i below j, j is PUT OFF; else GIVEN goes to j.

    private static void putsOffWhenIn() {
        KeyKeepers x = made(ASKING, 2);
        x.want(1);
        x.come(1, 0);
        x.come(0, 1);
        due("in", x.keeper(1, 0), 2);
        x.want(0);
        due("asked", x.come(0, 1), 0);
        due("put off", x.keeper(1, 4), 1);
        due("not given", x.count(6), 0);
    }

    private static void putsOffALaterTime() {
        KeyKeepers x = made(ASKING, 3);
        x.want(0);
        x.come(0, 1);
        x.want(1);
        due("given first", x.come(1, 0), 1);
        due("3, to one with 1", x.come(1, 0), 0);
        due("put off", x.keeper(0, 4), 2);
        due("not given", x.letter(0, 1, -1, 0), 0);
    }

    private static void putsOffALaterTimeOfALesserNumber() {
        KeyKeepers x = made(ASKING, 3);
        x.want(2);
        x.come(2, 0);
        x.want(0);
        due("given first", x.come(0, 2), 1);
        due("3, to one with 1", x.come(0, 2), 0);
        due("put off", x.keeper(2, 4), 1);
        due("not given", x.letter(2, 0, -1, 0), 0);
    }

    private static void putsOffALikeTimeOfAGreaterNumber() {
        KeyKeepers x = made(ASKING, 3);
        x.want(1);
        x.want(2);
        due("1, to one with 1", x.come(2, 1), 0);
        due("put off", x.keeper(1, 4), 4);
        due("not given", x.letter(1, 2, -1, 0), 1);
    }

    private static void givesALikeTimeOfALesserNumber() {
        KeyKeepers x = made(ASKING, 3);
        x.want(1);
        x.want(2);
        due("1, to one with 1", x.come(1, 2), 0);
        due("not put off", x.keeper(2, 4), 0);
        due("given behind what it asked", x.letter(2, 1, 1, 0), 1);
    }

    private static void givesAnEarlierTime() {
        KeyKeepers x = made(ASKING, 3);
        x.want(0);
        x.want(2);
        x.come(2, 1);
        x.want(1);
        due("1, to one with 3", x.come(0, 1), 0);
        due("not put off", x.keeper(1, 4), 0);
        due("given", x.letter(1, 0, 1, 0), 1);
    }

    private static void givesAnEarlierTimeOfAGreaterNumber() {
        KeyKeepers x = made(ASKING, 3);
        x.want(2);
        x.want(1);
        x.come(1, 0);
        x.want(0);
        due("1, to one with 3", x.come(2, 0), 0);
        due("not put off", x.keeper(0, 4), 0);
        due("given", x.letter(0, 2, 1, 0), 1);
    }

    private static void givesWhenIdle() {
        KeyKeepers x = made(ASKING, 2);
        x.want(0);
        x.come(0, 1);
        x.come(1, 0);
        x.leave(0);
        x.want(1);
        due("its former time is less", x.keeper(0, 2), 1);
        due("3, to one that is idle", x.come(1, 0), 0);
        due("not put off", x.keeper(0, 4), 0);
        due("given", x.letter(0, 1, 0, 0), 1);
    }

    // GIVEN COMES: when it came from all others since it was WANTED, it is IN.

    private static void isInByTheOnlyGiven() {
        KeyKeepers x = made(ASKING, 2);
        x.want(0);
        x.come(0, 1);
        due("given", x.come(1, 0), 1);
        due("in", x.keeper(0, 0), 2);
    }

    private static void isInByTheLastOfFiveGiven() {
        KeyKeepers x = made(ASKING, 6);
        x.want(3);
        int still = 5;
        for (int j = 5; j >= 0; j--) {
            if (j != 3) {
                due("it waits", x.keeper(3, 0), 1);
                due("still to come", x.keeper(3, 3), still);
                due("asked", x.come(3, j), 0);
                due("given", x.come(j, 3), 1);
                still--;
            }
        }
        due("in", x.keeper(3, 0), 2);
        due("none to come", x.keeper(3, 3), 0);
        due("one entry", x.count(2), 1);
    }

    private static void needsGivenAnew() {
        KeyKeepers x = made(ASKING, 3);
        x.want(0);
        due("all come", x.run(100, 0), 4);
        x.leave(0);
        due("wanted anew", x.want(0), 0);
        due("all are still to come", x.keeper(0, 3), 2);
        x.come(0, 2);
        due("the first", x.come(2, 0), 1);
        due("it waits", x.keeper(0, 0), 1);
        x.come(0, 1);
        due("the second", x.come(1, 0), 1);
        due("in", x.keeper(0, 0), 2);
    }

    // LEFT: GIVEN goes to all that are PUT OFF, who are not any more.

    private static void givesToNobodyAsItLeft() {
        KeyKeepers x = made(ASKING, 6);
        x.want(5);
        x.run(100, 0);
        due("nobody is put off", x.keeper(5, 4), 0);
        due("left", x.leave(5), 0);
        due("none under way", x.count(6), 0);
    }

    private static void givesToAllPutOffAsItLeft() {
        KeyKeepers x = Scene.allPutOff(6);
        due("all five", x.keeper(0, 4), 62);
        due("left", x.leave(0), 5);
        for (int j = 1; j < 6; j++) {
            due("one letter to " + j, x.letter(0, j, -1, 0), 1);
            due("given", x.letter(0, j, 0, 0), 1);
        }
    }

    private static void putsOffNobodyAnyMore() {
        KeyKeepers x = Scene.allPutOff(3);
        x.leave(0);
        due("put off no more", x.keeper(0, 4), 0);
        due("1 puts 2 off and comes in", x.run(100, 0), 5);
        due("1 gives", x.leave(1), 1);
        due("2 comes in", x.run(100, 0), 1);
        due("2 gives to nobody", x.leave(2), 0);
        x.want(0);
        due("in once more", x.run(100, 0), 4);
        due("gives to nobody", x.leave(0), 0);
    }

    // TOKEN: KEEPER 0 has it at first, all 0, the ROW empty.

    private static void startsWithKeeper0() {
        for (int n = 2; n <= 6; n++) {
            KeyKeepers x = made(TOKEN, n);
            for (int i = 0; i < n; i++) {
                due("who has it", x.keeper(i, 5), i == 0 ? 1 : 0);
                due("how often it asked", x.keeper(i, 2), 0);
                due("what stands", x.token(0, i), 0);
                due("the row", x.token(1, i), NONE);
                due("what it knows", x.knows(i, n - 1), 0);
            }
        }
    }

    // WANTED: with the TOKEN it is IN at once; else it asked once more, and ASKED with that number goes to all others.

    private static void isInWithTheTokenAndAsksNobody() {
        KeyKeepers x = made(TOKEN, 6);
        due("in", x.want(0), 1);
        due("it did not ask", x.keeper(0, 2), 0);
        due("no letter", x.count(6), 0);
        due("still with it", x.keeper(0, 5), 1);
    }

    private static void asksOfAllWithoutTheToken() {
        KeyKeepers x = made(TOKEN, 6);
        due("waits", x.want(5), 0);
        due("it asked", x.keeper(5, 2), 1);
        for (int j = 0; j < 5; j++) {
            due("one letter to " + j, x.letter(5, j, -1, 0), 1);
            due("asked", x.letter(5, j, 0, 0), 0);
            due("its number", x.letter(5, j, 0, 1), 1);
        }
        due("no others", x.count(6), 5);
    }

    private static void asksWhileTheTokenIsUnderWay() {
        KeyKeepers x = made(TOKEN, 2);
        x.want(1);
        x.come(1, 0);
        due("nobody has it", x.keeper(0, 5) + x.keeper(1, 5), 0);
        due("it waits", x.want(0), 0);
        due("it asked", x.keeper(0, 2), 1);
        due("behind the token", x.letter(0, 1, 1, 0), 0);
    }

    // If i has the TOKEN and is IDLE, and what it knows of j is one more than what stands there: it is PASSED to j.

    private static void passesToOneThatAskedOnceMore() {
        KeyKeepers x = made(TOKEN, 3);
        x.want(2);
        due("asked", x.come(2, 0), 0);
        due("passed", x.letter(0, 2, 0, 0), 2);
        due("no more with 0", x.keeper(0, 5), 0);
        due("not yet with 2", x.keeper(2, 5), 0);
        due("comes", x.come(0, 2), 2);
        due("in", x.keeper(2, 0), 2);
        due("with 2", x.keeper(2, 5), 1);
    }

    private static void doesNotPassWithoutTheToken() {
        KeyKeepers x = made(TOKEN, 3);
        x.want(2);
        due("asked", x.come(2, 1), 0);
        due("known", x.knows(1, 2), 1);
        due("not passed", x.count(5), 0);
        due("still with 0", x.keeper(0, 5), 1);
    }

    private static void doesNotPassWhenIn() {
        KeyKeepers x = made(TOKEN, 3);
        x.want(0);
        x.want(2);
        due("asked", x.come(2, 0), 0);
        due("known", x.knows(0, 2), 1);
        due("not passed", x.count(5), 0);
        due("still with 0", x.keeper(0, 5), 1);
    }

    private static void doesNotPassOnAnOldNumber() {
        KeyKeepers x = made(TOKEN, 3);
        x.want(1);
        x.come(1, 0);
        x.come(0, 1);
        x.leave(1);
        x.want(0);
        x.come(0, 1);
        x.come(1, 0);
        x.leave(0);
        x.want(2);
        x.come(2, 0);
        x.come(0, 2);
        due("the token", x.come(0, 2), 2);
        due("nobody is due", x.leave(2), 0);
        due("what stands for 1", x.token(0, 1), 1);
        due("an old letter", x.letter(1, 2, 0, 1), 1);
        due("comes", x.come(1, 2), 0);
        due("known", x.knows(2, 1), 1);
        due("not passed", x.keeper(2, 5), 1);
        due("three times in all", x.count(5), 3);
    }

    private static void doesNotPassTwice() {
        KeyKeepers x = made(TOKEN, 3);
        x.want(1);
        x.want(2);
        x.come(1, 0);
        due("asked, the token is under way", x.come(2, 0), 0);
        due("known", x.knows(0, 2), 1);
        due("passed once", x.count(5), 1);
        due("not to 2", x.letter(0, 2, -1, 0), 0);
    }

    // LEFT: .. if the ROW is not empty, the TOKEN is PASSED to its first.

    private static void keepsTheTokenWithAnEmptyRow() {
        KeyKeepers x = made(TOKEN, 6);
        x.want(0);
        x.want(3);
        due("nobody is known to have asked", x.leave(0), 0);
        due("it keeps it", x.keeper(0, 5), 1);
        due("the row", x.token(1, 0), NONE);
        due("in again at once", x.want(0), 1);
    }

    // What stands on the TOKEN for it becomes what it knows of itself.

    private static void writesNothingForOneThatDidNotAsk() {
        KeyKeepers x = made(TOKEN, 2);
        x.want(0);
        x.leave(0);
        due("what stands", x.token(0, 0), 0);
    }

    private static void writesWhatItAskedAsItLeft() {
        KeyKeepers x = Scene.crowded(3);
        due("2, twice", x.token(0, 2), 2);
        due("0, once", x.token(0, 0), 1);
        x.want(0);
        x.come(0, 2);
        x.come(2, 0);
        due("in, it has not left", x.token(0, 0), 1);
        x.leave(0);
        due("it left", x.token(0, 0), 2);
    }

    // Then all, by numbers, that are not in the ROW, and of whom it knows one more than stands there, come behind it.

    private static void rowsByNumbers() {
        KeyKeepers x = Scene.allAskOne(TOKEN, 4);
        due("left", x.leave(0), 1);
        due("passed to the first", x.letter(0, 1, 0, 0), 2);
        row(x, 2, 3);
    }

    private static void rowsBehindTheRow() {
        KeyKeepers x = Scene.allAskOne(TOKEN, 4);
        x.leave(0);
        x.want(0);
        x.come(0, 1);
        due("not the token", x.keeper(1, 0), 2);
        due("asked", x.come(0, 1), 0);
        due("left", x.leave(1), 1);
        due("to the first of the row", x.letter(1, 2, 1, 0), 2);
        row(x, 3, 0);
    }

    private static void rowsNobodyTwice() {
        KeyKeepers x = Scene.allAskOne(TOKEN, 4);
        x.leave(0);
        x.come(0, 1);
        x.come(2, 1);
        x.come(3, 1);
        due("it knows of 3, too", x.knows(1, 3), 1);
        due("left", x.leave(1), 1);
        row(x, 3);
    }

    private static void rowsAllOthers() {
        KeyKeepers x = Scene.allAskOne(TOKEN, 6);
        x.leave(0);
        row(x, 2, 3, 4, 5);
        x.want(0);
        x.come(0, 1);
        x.come(0, 1);
        x.leave(1);
        row(x, 3, 4, 5, 0);
    }

    private static void row(KeyKeepers x, int... wants) {
        for (int k = 0; k < x.count(0); k++) {
            due("place " + k + " of the row", x.token(1, k), k < wants.length ? wants[k] : NONE);
        }
    }

    // TREE: each has a HOLDER: its PARENT at first; 0 itself.

    private static void holdsByThePathTo0() {
        KeyKeepers x = made(TREE, 6);
        due("0 itself", x.keeper(0, 6), 0);
        due("0 has no parent", x.keeper(0, 9), NONE);
        for (int i = 1; i < 6; i++) {
            due("its parent", x.keeper(i, 6), x.keeper(i, 9));
            due("a lesser number", x.keeper(i, 9) < i ? 1 : 0, 1);
        }
    }

    // THE RULES: if its HOLDER is itself, it is not IN, and its QUEUE is not empty: ..

    private static void isInAtOnceAtTheRoot() {
        KeyKeepers x = made(TREE, 6);
        due("in", x.want(0), 1);
        due("its queue", x.keeper(0, 8), 0);
        due("no letter", x.count(6), 0);
    }

    private static void queuesWhileIn() {
        KeyKeepers x = made(TREE, 2);
        x.want(0);
        x.want(1);
        due("asked", x.come(1, 0), 0);
        due("its queue", x.knows(0, 0), 1);
        due("still in", x.keeper(0, 0), 2);
        due("still with it", x.keeper(0, 6), 0);
        due("no letter", x.count(6), 0);
    }

    private static void keepsTheTokenWithAnEmptyQueue() {
        KeyKeepers x = made(TREE, 3);
        x.want(0);
        due("left", x.leave(0), 0);
        due("still with it", x.keeper(0, 5), 1);
        due("no letter", x.count(6), 0);
    }

    private static void passesToTheOnlyOne() {
        KeyKeepers x = Scene.allAskOne(TREE, 2);
        due("left", x.leave(0), 1);
        due("passed", x.letter(0, 1, 0, 0), 2);
        due("its holder", x.keeper(0, 6), 1);
        due("its queue", x.keeper(0, 8), 0);
        due("it has not asked", x.keeper(0, 7), 0);
    }

    private static void passesThenAsks() {
        KeyKeepers x = Scene.allAskOne(TREE, 3);
        due("left", x.leave(0), 2);
        due("passed", x.letter(0, 2, 0, 0), 2);
        due("asked behind it", x.letter(0, 2, 1, 0), 0);
        due("it has asked", x.keeper(0, 7), 1);
        due("the other still stands there", x.knows(0, 0), 1);
    }

    // .. its QUEUE is not empty, and it has not ASKED: ASKED goes to its HOLDER.

    private static void asksButOnce() {
        KeyKeepers x = made(TREE, 4);
        x.want(1);
        x.want(3);
        due("asked", x.come(3, 1), 0);
        due("two stand there", x.keeper(1, 8), 2);
        due("one letter", x.letter(1, 0, -1, 0), 1);
        due("two in all", x.count(3), 2);
    }

    // If that is itself, it is IN.

    private static void isInAsTheFirstOfItsQueue() {
        KeyKeepers x = made(TREE, 4);
        x.want(1);
        x.want(3);
        x.come(3, 1);
        x.come(1, 0);
        due("passed", x.come(0, 1), 2);
        due("in", x.keeper(1, 0), 2);
        due("one still stands there", x.keeper(1, 8), 1);
        due("it has not asked", x.keeper(1, 7), 0);
        due("no letter", x.count(6), 0);
    }

    private static void queuesAllNeighbours() {
        KeyKeepers x = Scene.allAskOne(TREE, 6);
        due("all five", x.keeper(0, 8), 5);
        for (int place = 0; place < 5; place++) {
            due("in the order in which they asked", x.knows(0, place), 5 - place);
        }
        due("no sixth", x.knows(0, 5), NONE);
        x.leave(0);
        due("wanted", x.want(0), 0);
        due("itself behind four", x.keeper(0, 8), 5);
        due("the last", x.knows(0, 4), 0);
    }

    // ENTRIES are counted as KEEPERS come IN, the latest 60 are kept in order.

    private static void tells59Entries() {
        KeyKeepers x = Scene.entered(59);
        due("ever", x.count(2), 59);
        due("the 59th latest", x.entry(58, 0), 0);
        due("no 60th", x.entry(59, 0), NONE);
    }

    private static void tells60Entries() {
        KeyKeepers x = Scene.entered(60);
        due("ever", x.count(2), 60);
        due("the 60th latest", x.entry(59, 0), 0);
        due("no 61st", x.entry(60, 0), NONE);
    }

    private static void tellsTheLatest60Of61() {
        KeyKeepers x = made(TOKEN, 2);
        x.want(1);
        x.come(1, 0);
        x.come(0, 1);
        x.leave(1);
        x.want(0);
        x.come(0, 1);
        x.come(1, 0);
        x.leave(0);
        for (int times = 0; times < 58; times++) {
            x.want(0);
            x.leave(0);
        }
        due("the 60th latest is the first", x.entry(59, 0), 1);
        due("in at once", x.want(0), 1);
        due("ever", x.count(2), 61);
        due("the 60th latest is the second", x.entry(59, 0), 0);
        due("as much was sent", x.entry(59, 2), 4);
        due("the first is not kept", x.entry(60, 0), NONE);
    }

    // LETTERS sent are counted by KINDS.

    private static void countsByKinds() {
        KeyKeepers x = made(ASKING, 2);
        x.want(0);
        x.run(2, 0);
        kinds(x, 1, 1, 0);
        x = made(TOKEN, 2);
        x.want(1);
        x.run(2, 0);
        kinds(x, 1, 0, 1);
        x = made(TREE, 2);
        x.want(1);
        x.run(2, 0);
        kinds(x, 1, 0, 1);
    }

    private static void kinds(KeyKeepers x, int... wants) {
        for (int kind = 0; kind < 3; kind++) {
            due("kind " + kind, x.count(3 + kind), wants[kind]);
        }
    }

    // THE WAIT of an ENTRY: how many others came IN since it was WANTED.

    private static void waitsForNobody() {
        KeyKeepers x = made(TREE, 3);
        x.want(0);
        due("in at once", x.entry(0, 1), 0);
        x.leave(0);
        x.want(2);
        x.run(2, 0);
        due("in after one that was in before", x.entry(0, 0), 2);
        due("nobody since", x.entry(0, 1), 0);
    }

    private static void waitsForEachEntrySince() {
        KeyKeepers x = Scene.allAskOne(TOKEN, 6);
        for (int i = 1; i < 6; i++) {
            due("left", x.leave(i - 1), 1);
            while (x.keeper(i, 0) != 2 && x.letter(i - 1, i, -1, 0) > 0) {
                x.come(i - 1, i);
            }
            due("who", x.entry(0, 0), i);
            due("all that were before it", x.entry(0, 1), i - 1);
        }
    }

    private static void waitsForTheSameTwice() {
        KeyKeepers x = made(TOKEN, 3);
        x.want(1);
        for (int times = 0; times < 3; times++) {
            due("in", x.want(0), 1);
            due("left", x.leave(0), 0);
        }
        x.come(1, 0);
        x.come(0, 1);
        due("who", x.entry(0, 0), 1);
        due("three times another", x.entry(0, 1), 3);
    }

    // ACTS are WANTED, LEFT, COMING; the latest 30 can be taken back.

    private static void takesBack29() {
        takesBack(29, 29, 0);
    }

    private static void takesBack30() {
        takesBack(30, 30, 0);
    }

    private static void takesBackTheLatest30Of31() {
        takesBack(31, 30, 1);
    }

    private static void takesBack(int acts, int back, int entriesLeft) {
        KeyKeepers x = made(TOKEN, 2);
        for (int act = 0; act < acts; act++) {
            due("an act", act % 2 == 0 ? x.want(0) : x.leave(0), act % 2 == 0 ? 1 : 0);
        }
        due("after " + acts, x.count(9), back);
        for (int times = 1; times <= back; times++) {
            due("taken back", x.undo(), 1);
            due("that many less", x.count(9), back - times);
        }
        due("no more", x.undo(), NO);
        due("entries that stay", x.count(2), entriesLeft);
        due("who is in", x.keeper(0, 0), entriesLeft == 0 ? 0 : 2);
    }

    // GONE THROUGH are all STATES that COMINGS, and LEFTS of who is IN, bring from the one that there is (none is WANTED).

    private static void findsOneStateWhenIdle() {
        for (int way = ASKING; way <= TREE; way++) {
            KeyKeepers x = made(way, 6);
            due("one state, way " + way, x.pass(), 1);
            due("it is an end", x.passed(1), 1);
        }
    }

    private static void findsTwoStatesWhenOneIsIn() {
        for (int way = TOKEN; way <= TREE; way++) {
            KeyKeepers x = made(way, 6);
            x.want(0);
            due("in, and left, way " + way, x.pass(), 2);
            due("one end", x.passed(1), 1);
        }
    }

    // Each STATE once.

    private static void findsAStateOnce() {
        KeyKeepers x = made(ASKING, 3);
        x.want(0);
        // Of each letter: under way, answered, both came; and left at last.
        due("three by three, and one", x.pass(), 10);
    }

    // STATES are alike if all is that KEEPERS, LETTERS, the TOKEN have (not ENTRIES, nor counts).

    private static void findsStatesAlikeByOtherCounts() {
        KeyKeepers x = made(TREE, 4);
        x.want(3);
        x.want(1);
        x.want(2);
        // With the letters sent they would be 71.
        due("states", x.pass(), 68);
    }

    private static void findsEndsAlikeByOtherEntries() {
        KeyKeepers x = made(TOKEN, 4);
        for (int i = 1; i < 4; i++) {
            x.want(i);
            for (int j = 1; j < 4; j++) {
                if (j != i) {
                    due("asked", x.come(i, j), 0);
                }
            }
        }
        // In come 1, 2, 3, or 2, 1, 3, or 3, 1, 2: the token is with 3 or with 2 at last.
        due("all are found", x.pass() > 0 ? 1 : 0, 1);
        due("ends", x.passed(1), 2);
    }

    // 300 at most (SPENT: a 301st would come).

    private static void finds299() {
        KeyKeepers x = made(ASKING, 4);
        wants(x, 3, 1, 0);
        comes(x, 0, 1, 3, 1, 3, 2, 2, 3, 1, 2);
        due("299", x.pass(), 299);
        due("states", x.passed(0), 299);
    }

    private static void finds300() {
        KeyKeepers x = made(TREE, 6);
        wants(x, 5, 4, 3);
        comes(x, 5, 2);
        wants(x, 2);
        due("300", x.pass(), 300);
        due("states", x.passed(0), 300);
    }

    private static void isSpentBy301() {
        KeyKeepers x = made(ASKING, 4);
        wants(x, 3, 1, 2);
        comes(x, 3, 2, 1, 3, 2, 1, 2, 0, 1, 0, 1, 2);
        due("301", x.pass(), SPENT);
        due("states", x.passed(0), 300);
        x = made(TREE, 6);
        wants(x, 3, 0);
        comes(x, 3, 1);
        wants(x, 4, 5, 2);
        due("302", x.pass(), SPENT);
        due("states", x.passed(0), 300);
    }

    private static void isSpentAtAnyWay() {
        for (int way = ASKING; way <= TREE; way++) {
            KeyKeepers x = made(way, 6);
            wants(x, 1, 2, 3, 4, 5);
            due("spent, way " + way, x.pass(), SPENT);
            due("states", x.passed(0), 300);
            due("it stays as it was", x.count(8), 5);
        }
    }

    private static void wants(KeyKeepers x, int... who) {
        for (int i : who) {
            due("want(" + i + ")", x.want(i) >= 0 ? 1 : 0, 1);
        }
    }

    private static void comes(KeyKeepers x, int... pairs) {
        for (int k = 0; k + 1 < pairs.length; k += 2) {
            due("come(" + pairs[k] + ", " + pairs[k + 1] + ")", x.come(pairs[k], pairs[k + 1]) >= 0 ? 1 : 0, 1);
        }
    }

    // An END is a STATE that brings none (what would be FULL is none).

    private static void findsNoEndInWhatBringsAny() {
        KeyKeepers x = Scene.crowded(24);
        x.want(1);
        // To 1 twelve are under way from 0 and from 2, so 1 cannot be passed the token before one of 0 comes.
        due("too many", x.pass(), SPENT);
        due("one was not gone", x.passed(5) > 0 ? 1 : 0, 1);
        due("no end is among the 300", x.passed(1), 0);
    }

    // BAD: a number is none that is told. NO: not as things stand. FULL. Of several the first; nothing changes then.

    private static void isBadBeforeNo() {
        KeyKeepers x = made(ASKING, 3);
        due("parent: neither is one, nor by TREE", x.parent(3, 0), BAD);
        due("token: neither a what, nor by TOKEN", x.token(2, 0), BAD);
        due("token: neither a keeper, nor by TOKEN", x.token(0, 3), BAD);
        due("come: the same, and none under way", x.come(1, 1), BAD);
    }

    private static void isBadBeforeFull() {
        KeyKeepers x = new KeyKeepers();
        for (int times = 0; times < 10; times++) {
            x.begin(ASKING, 2);
        }
        due("begin: no such way", x.begin(3, 2), BAD);
        due("begin: no such number", x.begin(0, 7), BAD);
        due("begin: the 11th", x.begin(0, 2), FULL);
    }

    private static void isNoBeforeFull() {
        KeyKeepers x = Scene.crowded(23);
        due("wanted", x.want(0), 0);
        due("twelve", x.letter(0, 1, -1, 0), 12);
        due("want: it waits, and there is no room", x.want(0), NO);
        due("leave: it waits, and there is no room", x.leave(0), NO);
        due("come: none is under way, and there is no room", x.come(1, 0), NO);
    }

    private static void changesNothingWhenBad() {
        for (int way = ASKING; way <= TREE; way++) {
            int byWay = way;
            Scene.refused("want(5)", () -> busy(byWay), x -> x.want(5), BAD);
            Scene.refused("leave(-1)", () -> busy(byWay), x -> x.leave(-1), BAD);
            Scene.refused("come(0, 5)", () -> busy(byWay), x -> x.come(0, 5), BAD);
            Scene.refused("come(2, 2)", () -> busy(byWay), x -> x.come(2, 2), BAD);
            Scene.refused("run(101, 0)", () -> busy(byWay), x -> x.run(101, 0), BAD);
            Scene.refused("run(1, -1)", () -> busy(byWay), x -> x.run(1, -1), BAD);
            Scene.refused("begin(0, 7)", () -> busy(byWay), x -> x.begin(0, 7), BAD);
            Scene.refused("begin(3, 2)", () -> busy(byWay), x -> x.begin(3, 2), BAD);
            Scene.refused("parent(2, 2)", () -> busy(byWay), x -> x.parent(2, 2), BAD);
        }
    }

    private static void changesNothingWhenNo() {
        for (int way = ASKING; way <= TREE; way++) {
            int byWay = way;
            Scene.refused("want, waits", () -> busy(byWay), x -> x.want(3), NO);
            Scene.refused("want, in", () -> busy(byWay), x -> x.want(0), NO);
            Scene.refused("leave, idle", () -> busy(byWay), x -> x.leave(2), NO);
            Scene.refused("leave, waits", () -> busy(byWay), x -> x.leave(3), NO);
            Scene.refused("come, none", () -> busy(byWay), x -> x.come(2, 4), NO);
            Scene.refused("parent", () -> busy(byWay), x -> x.parent(2, 1), NO);
        }
    }

    /** 5 keepers: 0 is in, 3 waits and its letters are under way, 1 waits and it asked 0; one pass was done. */
    private static KeyKeepers busy(int way) {
        KeyKeepers x = made(way, 5);
        x.want(0);
        x.run(100, 3);
        x.want(1);
        x.come(1, 0);
        x.want(3);
        due("one is in", x.keeper(0, 0), 2);
        x.pass();
        return x;
    }

    private static void changesNothingWhenFull() {
        Scene.refused("want, FULL", () -> Scene.crowded(24), x -> x.want(2), FULL);
        Scene.refused("leave, FULL", TermsTest::fullToLeave, x -> x.leave(0), FULL);
        Scene.refused("come, FULL", TermsTest::fullToCome, x -> x.come(1, 0), FULL);
        Scene.refused("begin, FULL", TermsTest::fullToBegin, x -> x.begin(TOKEN, 3), FULL);
        Scene.refused("pass, FULL", TermsTest::fullToPass, KeyKeepers::pass, FULL);
    }

    /** 0 is in and knows that 1 asked; from 0 to 1 twelve are under way. */
    private static KeyKeepers fullToLeave() {
        KeyKeepers x = Scene.crowded(24);
        x.want(0);
        x.want(1);
        x.come(1, 0);
        return x;
    }

    /** 0 is idle with the token, and what 1 asked is on its way there; from 0 to 1 twelve are under way. */
    private static KeyKeepers fullToCome() {
        KeyKeepers x = Scene.crowded(24);
        x.want(1);
        return x;
    }

    private static KeyKeepers fullToBegin() {
        KeyKeepers x = new KeyKeepers();
        for (int times = 0; times < 9; times++) {
            x.begin(ASKING, 2);
        }
        x.begin(TREE, 4);
        x.want(0);
        x.want(3);
        return x;
    }

    private static KeyKeepers fullToPass() {
        KeyKeepers x = made(TREE, 3);
        x.want(0);
        for (int times = 0; times < 15; times++) {
            due("pass", x.pass(), 2);
        }
        x.want(2);
        return x;
    }
}
