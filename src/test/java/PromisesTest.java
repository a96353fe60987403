/** Each promise by hand: ordinary inputs, the edges that the document names, and wrong inputs. */
public final class PromisesTest {
    private static final int BAD = -1, NO = -2, FULL = -3, NONE = -4, SPENT = -5;
    private static final int ASKING = 0, TOKEN = 1, TREE = 2;

    private PromisesTest() {
    }

    private static void due(String call, long got, long want) {
        Check.due("PromisesTest, " + call, got, want);
    }

    public static void main(String[] args) {
        promise1New();
        promise2Begin();
        promise3Parent();
        promise4Want();
        promise5Leave();
        promise6Come();
        promise7Run();
        promise8Keeper();
        promise9Knows();
        promise10Token();
        promise11Letter();
        promise12Entry();
        promise13Undo();
        promise14Pass();
        promise15Passed();
        promise16Count();
        Check.end();
    }

    private static KeyKeepers made(int way, int n) {
        KeyKeepers x = new KeyKeepers();
        due("begin", x.begin(way, n), n);
        return x;
    }

    /** By TOKEN, 3 keepers: 0 and 2 hand the token to one another, and what they ask of 1 stays under way. */
    private static KeyKeepers crowded(int rounds) {
        KeyKeepers x = made(TOKEN, 3);
        for (int round = 0; round < rounds; round++) {
            int next = round % 2 == 0 ? 2 : 0;
            int has = 2 - next;
            due("crowded want", x.want(next), 0);
            due("crowded ask", x.come(next, has), 0);
            due("crowded pass", x.come(has, next), 2);
            due("crowded leave", x.leave(next), 0);
        }
        return x;
    }

    private static void promise1New() {
        KeyKeepers x = new KeyKeepers();
        due("1 keepers", x.count(0), 2);
        due("1 way", x.count(1), ASKING);
        for (int what = 2; what <= 9; what++) {
            due("1 count", x.count(what), 0);
        }
        for (int what = 0; what <= 6; what++) {
            due("1 passed", x.passed(what), 0);
        }
        due("1 undo", x.undo(), NO);
        due("1 keeper 2", x.keeper(2, 0), BAD);
        due("1 entry", x.entry(0, 0), NONE);
        due("1 run", x.run(100, 0), 0);
        due("1 pass", x.pass(), 1);
    }

    private static void promise2Begin() {
        KeyKeepers x = new KeyKeepers();
        due("2 way -1", x.begin(-1, 3), BAD);
        due("2 way 3", x.begin(3, 3), BAD);
        due("2 n 1", x.begin(0, 1), BAD);
        due("2 n 7", x.begin(2, 7), BAD);
        x.want(0);
        due("2 tree", x.begin(TREE, 6), 6);
        due("2 way", x.count(1), TREE);
        for (int what = 2; what <= 9; what++) {
            due("2 all as at first", x.count(what), 0);
        }
        int[] parents = {NONE, 0, 0, 1, 1, 2};
        for (int i = 0; i < 6; i++) {
            due("2 parent", x.keeper(i, 9), parents[i]);
            due("2 holder", x.keeper(i, 6), Math.max(parents[i], 0));
        }
        due("2 want 0", x.want(0), 1);
        due("2 begin 2", x.begin(TOKEN, 2), 2);
        due("2 no entries", x.entry(0, 0), NONE);
        due("2 no acts", x.undo(), NO);
        for (int times = 3; times <= 10; times++) {
            due("2 begin " + times, x.begin(ASKING, 3), 3);
        }
        x.want(1);
        due("2 the 11th", x.begin(ASKING, 2), FULL);
        due("2 BAD first", x.begin(ASKING, 7), BAD);
        due("2 nothing changes", x.count(0), 3);
        due("2 nothing changes", x.count(8), 1);
    }

    private static void promise3Parent() {
        KeyKeepers x = made(TREE, 5);
        due("3 was", x.parent(4, 3), 1);
        due("3 was", x.parent(4, 2), 3);
        due("3 is", x.keeper(4, 9), 2);
        due("3 holder", x.keeper(4, 6), 2);
        due("3 other", x.keeper(3, 9), 1);
        due("3 i 0", x.parent(0, 0), BAD);
        due("3 i 5", x.parent(5, 0), BAD);
        due("3 i -1", x.parent(-1, -2), BAD);
        due("3 p -1", x.parent(1, -1), BAD);
        due("3 p i", x.parent(2, 2), BAD);
        due("3 p above i", x.parent(2, 3), BAD);
        due("3 pass is no act", x.pass(), 1);
        due("3 after pass", x.parent(1, 0), 0);
        due("3 want", x.want(4), 0);
        due("3 asks its new parent", x.letter(4, 2, -1, 0), 1);
        due("3 after an act", x.parent(1, 0), NO);
        due("3 BAD first", x.parent(1, 1), BAD);
        due("3 undo", x.undo(), 1);
        due("3 taken back", x.parent(1, 0), NO);
        due("3 begin", x.begin(TREE, 3), 3);
        due("3 since begin", x.parent(2, 1), 0);
        due("3 not by TREE", made(TOKEN, 3).parent(2, 1), NO);
        due("3 not by TREE, BAD", made(ASKING, 3).parent(2, 2), BAD);
    }

    private static void promise4Want() {
        KeyKeepers x = made(ASKING, 3);
        due("4 i -1", x.want(-1), BAD);
        due("4 i 3", x.want(3), BAD);
        due("4 asking", x.want(1), 0);
        due("4 to 0", x.letter(1, 0, 0, 1), 1);
        due("4 to 2", x.letter(1, 2, 0, 1), 1);
        due("4 waits", x.want(1), NO);
        KeyKeepers y = made(TOKEN, 3);
        due("4 with the token", y.want(0), 1);
        due("4 is in", y.want(0), NO);
        due("4 without", y.want(2), 0);
        due("4 asked once", y.keeper(2, 2), 1);
        KeyKeepers z = made(TREE, 3);
        due("4 holds it", z.want(0), 1);
        due("4 asks", z.want(1), 0);
        due("4 one letter", z.count(6), 1);
        KeyKeepers full = crowded(24);
        due("4 twelve", full.letter(2, 1, -1, 0), 12);
        due("4 full", full.want(2), FULL);
        due("4 nothing changes", full.keeper(2, 0), 0);
        due("4 nothing changes", full.keeper(2, 2), 12);
        due("4 nothing changes", full.letter(2, 0, -1, 0), 0);
        due("4 nothing changes", full.count(3), 48);
        due("4 still 30 acts", full.count(9), 30);
    }

    private static void promise5Leave() {
        KeyKeepers x = made(ASKING, 3);
        due("5 i -1", x.leave(-1), BAD);
        due("5 i 3", x.leave(3), BAD);
        due("5 idle", x.leave(0), NO);
        x.want(0);
        due("5 waits", x.leave(0), NO);
        x.want(2);
        x.want(1);
        due("5 all come", x.run(100, 0), 9);
        due("5 in", x.keeper(0, 0), 2);
        due("5 gives to both", x.leave(0), 2);
        due("5 given", x.letter(0, 2, 0, 0), 1);
        due("5 put off no more", x.keeper(0, 4), 0);
        KeyKeepers y = made(TOKEN, 4);
        y.want(0);
        y.want(3);
        y.want(2);
        y.come(3, 0);
        y.come(2, 0);
        due("5 passes the token", y.leave(0), 1);
        due("5 by numbers", y.letter(0, 2, 0, 0), 2);
        due("5 row", y.token(1, 0), 3);
        KeyKeepers z = made(TREE, 3);
        z.want(0);
        z.want(1);
        z.want(2);
        z.come(2, 0);
        z.come(1, 0);
        due("5 passes and asks", z.leave(0), 2);
        due("5 passed", z.letter(0, 2, 0, 0), 2);
        due("5 asked behind", z.letter(0, 2, 1, 0), 0);
        KeyKeepers full = crowded(24);
        due("5 has the token", full.keeper(0, 5), 1);
        due("5 in again", full.want(0), 1);
        due("5 one asks", full.want(1), 0);
        due("5 it comes", full.come(1, 0), 0);
        due("5 twelve", full.letter(0, 1, -1, 0), 12);
        due("5 full", full.leave(0), FULL);
        due("5 nothing changes", full.keeper(0, 0), 2);
        due("5 nothing changes", full.token(1, 0), NONE);
        due("5 nothing changes", full.keeper(0, 5), 1);
        due("5 nothing changes", full.count(5), 24);
    }

    private static void promise6Come() {
        KeyKeepers x = made(ASKING, 3);
        due("6 i -1", x.come(-1, 0), BAD);
        due("6 j 3", x.come(0, 3), BAD);
        due("6 i is j", x.come(1, 1), BAD);
        due("6 none", x.come(0, 1), NO);
        x.want(0);
        x.want(1);
        due("6 asked", x.come(1, 0), 0);
        due("6 clock", x.keeper(0, 1), 2);
        due("6 like time, lesser number", x.keeper(0, 4), 2);
        due("6 asked", x.come(0, 1), 0);
        due("6 given", x.come(1, 0), 1);
        due("6 not from all", x.keeper(0, 0), 1);
        x.come(0, 2);
        due("6 given", x.come(2, 0), 1);
        due("6 from all", x.keeper(0, 0), 2);
        x.want(2);
        x.come(2, 0);
        due("6 in puts off", x.keeper(0, 4), 6);
        x.come(2, 1);
        due("6 lesser time puts off", x.keeper(1, 4), 4);
        x.leave(0);
        x.want(0);
        due("6 time is the clock", x.letter(0, 1, 1, 1), 5);
        due("6 in order", x.letter(0, 1, 0, 0), 1);
        due("6 the eldest", x.come(0, 1), 1);
        due("6 clock behind", x.keeper(1, 1), 4);
        due("6 then the next", x.come(0, 1), 0);
        due("6 clock of the greater", x.keeper(1, 1), 6);
        KeyKeepers y = made(TOKEN, 3);
        y.want(1);
        due("6 token asked", y.come(1, 0), 0);
        due("6 token goes", y.letter(0, 1, 0, 0), 2);
        due("6 passed", y.come(0, 1), 2);
        due("6 in", y.keeper(1, 0), 2);
        KeyKeepers z = made(TREE, 4);
        z.want(3);
        due("6 tree asked", z.come(3, 1), 0);
        due("6 asks on", z.letter(1, 0, 0, 0), 0);
        z.come(1, 0);
        due("6 tree passed", z.come(0, 1), 2);
        due("6 passes on", z.letter(1, 3, 0, 0), 2);
        due("6 tree passed", z.come(1, 3), 2);
        due("6 in", z.keeper(3, 0), 2);
        KeyKeepers full = crowded(24);
        due("6 one asks", full.want(1), 0);
        due("6 full", full.come(1, 0), FULL);
        due("6 nothing changes", full.letter(1, 0, -1, 0), 1);
        due("6 nothing changes", full.knows(0, 1), 0);
        due("6 nothing changes", full.keeper(0, 5), 1);
        due("6 another comes", full.come(0, 1), 0);
        due("6 no more full", full.come(1, 0), 0);
    }

    private static void promise7Run() {
        KeyKeepers x = made(ASKING, 4);
        due("7 k 0", x.run(0, 1), BAD);
        due("7 k 101", x.run(101, 1), BAD);
        due("7 seed -1", x.run(1, -1), BAD);
        due("7 nothing", x.run(1, 0), 0);
        x.want(1);
        due("7 the third pair", x.run(1, 5), 1);
        due("7 it came", x.letter(1, 3, -1, 0), 0);
        due("7 it gave", x.letter(3, 1, -1, 0), 1);
        // 7 of 3 pairs: 1 (1 to 2); 7 * 1103515245 + 12345 modulo 2^31 divided by 8 is 160271014, of 3 pairs: 1 (2 to 1).
        due("7 two", x.run(2, 7), 2);
        due("7 1 to 2 came", x.letter(1, 2, -1, 0), 0);
        due("7 2 to 1 came", x.letter(2, 1, -1, 0), 0);
        due("7 3 to 1 did not", x.letter(3, 1, -1, 0), 1);
        due("7 two give", x.count(4), 2);
        due("7 ends", x.run(100, Integer.MAX_VALUE), 3);
        due("7 in", x.keeper(1, 0), 2);
        due("7 acts", x.count(9), 7);
        KeyKeepers full = crowded(24);
        full.want(1);
        // Pairs: 0 to 1, 1 to 0, 1 to 2, 2 to 1. The second would be FULL.
        due("7 full", full.run(5, 1), 0);
        due("7 nothing changes", full.letter(1, 0, -1, 0), 1);
        due("7 one, then full", full.run(5, 10), 1);
        due("7 the third came", full.letter(1, 2, -1, 0), 0);
    }

    private static void promise8Keeper() {
        KeyKeepers x = made(ASKING, 3);
        due("8 i -1", x.keeper(-1, 0), BAD);
        due("8 i 3", x.keeper(3, 0), BAD);
        due("8 what -1", x.keeper(0, -1), BAD);
        due("8 what 10", x.keeper(0, 10), BAD);
        x.want(2);
        x.want(0);
        x.come(0, 2);
        keeper(x, 2, 1, 2, 1, 2, 0, 0, NONE, 0, 0, NONE);
        x.come(2, 0);
        keeper(x, 0, 1, 2, 1, 2, 4, 0, NONE, 0, 0, NONE);
        x.come(2, 0);
        keeper(x, 0, 1, 2, 1, 1, 4, 0, NONE, 0, 0, NONE);
        x.come(0, 1);
        x.come(1, 0);
        keeper(x, 0, 2, 2, 1, 0, 4, 0, NONE, 0, 0, NONE);
        KeyKeepers y = made(TOKEN, 3);
        keeper(y, 0, 0, 0, 0, 0, 0, 1, NONE, 0, 0, NONE);
        y.want(1);
        keeper(y, 1, 1, 0, 1, 0, 0, 0, NONE, 0, 0, NONE);
        y.come(1, 0);
        keeper(y, 0, 0, 0, 0, 0, 0, 0, NONE, 0, 0, NONE);
        y.come(0, 1);
        keeper(y, 1, 2, 0, 1, 0, 0, 1, NONE, 0, 0, NONE);
        KeyKeepers z = made(TREE, 4);
        keeper(z, 0, 0, 0, 0, 0, 0, 1, 0, 0, 0, NONE);
        z.want(3);
        z.want(1);
        keeper(z, 3, 1, 0, 0, 0, 0, 0, 1, 1, 1, 1);
        z.come(3, 1);
        keeper(z, 1, 1, 0, 0, 0, 0, 0, 0, 1, 2, 0);
        z.come(1, 0);
        keeper(z, 0, 0, 0, 0, 0, 0, 0, 1, 0, 0, NONE);
        z.come(0, 1);
        keeper(z, 1, 2, 0, 0, 0, 0, 1, 1, 0, 1, 0);
        z.leave(1);
        keeper(z, 1, 0, 0, 0, 0, 0, 0, 3, 0, 0, 0);
    }

    private static void keeper(KeyKeepers x, int i, int... wants) {
        for (int what = 0; what < wants.length; what++) {
            due("8 keeper(" + i + ", " + what + ")", x.keeper(i, what), wants[what]);
        }
    }

    private static void promise9Knows() {
        KeyKeepers x = made(TOKEN, 3);
        int[] nobodies = {Integer.MIN_VALUE, -1, 3, 6, Integer.MAX_VALUE};
        for (int nobody : nobodies) {
            for (int i = 0; i < 3; i++) {
                due("9 by TOKEN, " + i + ", " + nobody, x.knows(i, nobody), NONE);
                due("9 by TOKEN, " + nobody + ", " + i, x.knows(nobody, i), NONE);
            }
            due("9 by TOKEN, twice " + nobody, x.knows(nobody, nobody), NONE);
        }
        due("9 the last place", x.knows(0, 2), 0);
        x.want(2);
        due("9 of itself", x.knows(2, 2), 1);
        due("9 not yet", x.knows(0, 2), 0);
        x.come(2, 0);
        due("9 now", x.knows(0, 2), 1);
        x.come(0, 2);
        x.leave(2);
        x.want(0);
        x.come(0, 2);
        x.come(2, 0);
        x.leave(0);
        x.want(2);
        due("9 twice", x.letter(2, 1, 1, 1), 2);
        x.come(2, 1);
        x.come(2, 1);
        due("9 the greater", x.knows(1, 2), 2);
        KeyKeepers y = made(TREE, 3);
        y.want(1);
        y.want(2);
        y.want(0);
        y.come(2, 0);
        y.come(1, 0);
        due("9 first", y.knows(0, 0), 2);
        due("9 second", y.knows(0, 1), 1);
        due("9 no place", y.knows(0, 2), NONE);
        due("9 far place", y.knows(0, 1000), NONE);
        due("9 place -1", y.knows(0, -1), NONE);
        due("9 least place", y.knows(0, Integer.MIN_VALUE), NONE);
        for (int nobody : nobodies) {
            due("9 by TREE, place 0 of " + nobody, y.knows(nobody, 0), NONE);
            due("9 by TREE, place -1 of " + nobody, y.knows(nobody, -1), NONE);
            due("9 by TREE, place 6 of " + nobody, y.knows(nobody, 6), NONE);
        }
        KeyKeepers z = new KeyKeepers();
        int[] numbers = {Integer.MIN_VALUE, -1, 0, 1, 2, 6, Integer.MAX_VALUE};
        for (int i : numbers) {
            for (int j : numbers) {
                due("9 by ASKING, " + i + ", " + j, z.knows(i, j), NONE);
            }
        }
        z.want(1);
        due("9 by ASKING, one waits", z.knows(2, 0), NONE);
        due("9 TOKEN again", z.begin(TOKEN, 2), 2);
        due("9 i 2 by TOKEN", z.knows(2, 0), NONE);
        due("9 j 2 by TOKEN", z.knows(0, 2), NONE);
        due("9 j 1 by TOKEN", z.knows(0, 1), 0);
    }

    private static void promise10Token() {
        KeyKeepers x = made(TOKEN, 4);
        due("10 what -1", x.token(-1, 0), BAD);
        due("10 what 2", x.token(2, 0), BAD);
        due("10 k -1", x.token(0, -1), BAD);
        due("10 k 4", x.token(0, 4), BAD);
        due("10 place -1", x.token(1, -1), BAD);
        due("10 place 4 of 4 keepers", x.token(1, 4), BAD);
        due("10 place 3 of 4 keepers", x.token(1, 3), NONE);
        due("10 greatest place", x.token(1, Integer.MAX_VALUE), BAD);
        due("10 empty", x.token(1, 0), NONE);
        x.want(0);
        for (int i = 3; i > 0; i--) {
            x.want(i);
            x.come(i, 0);
        }
        due("10 empty", x.token(1, 0), NONE);
        x.leave(0);
        due("10 first, under way", x.token(1, 0), 2);
        due("10 second, under way", x.token(1, 1), 3);
        due("10 no place", x.token(1, 2), NONE);
        x.come(0, 1);
        due("10 not yet", x.token(0, 1), 0);
        x.leave(1);
        due("10 stands", x.token(0, 1), 1);
        due("10 goes from the row", x.token(1, 0), 3);
        notByToken(new KeyKeepers(), 2);
        notByToken(made(ASKING, 3), 3);
        notByToken(made(TREE, 6), 6);
    }

    private static void notByToken(KeyKeepers x, int n) {
        for (int what = -1; what <= 2; what++) {
            for (int k = -1; k <= n + 1; k++) {
                boolean told = (what == 0 || what == 1) && k >= 0 && k < n;
                due("10 token(" + what + ", " + k + ") of " + n, x.token(what, k), told ? NO : BAD);
            }
        }
    }

    private static void promise11Letter() {
        KeyKeepers x = made(ASKING, 3);
        due("11 i 3", x.letter(3, 0, 0, 0), BAD);
        due("11 j -1", x.letter(0, -1, 0, 0), BAD);
        due("11 i is j", x.letter(2, 2, -1, 0), BAD);
        due("11 k -2", x.letter(0, 1, -2, 0), BAD);
        due("11 what -1", x.letter(0, 1, 0, -1), BAD);
        due("11 what 2", x.letter(0, 1, 0, 2), BAD);
        due("11 none under way", x.letter(0, 1, -1, 0), 0);
        due("11 no place", x.letter(0, 1, 0, 0), NONE);
        x.want(0);
        x.come(0, 1);
        x.want(1);
        due("11 two", x.letter(1, 0, -1, 0), 2);
        due("11 eldest", x.letter(1, 0, 0, 0), 1);
        due("11 without", x.letter(1, 0, 0, 1), 0);
        due("11 next", x.letter(1, 0, 1, 0), 0);
        due("11 time", x.letter(1, 0, 1, 1), 3);
        due("11 no place", x.letter(1, 0, 2, 1), NONE);
        KeyKeepers y = made(TREE, 2);
        y.want(1);
        due("11 tree asked", y.letter(1, 0, 0, 0), 0);
        due("11 without", y.letter(1, 0, 0, 1), 0);
        y.come(1, 0);
        due("11 passed", y.letter(0, 1, 0, 0), 2);
        due("11 without", y.letter(0, 1, 0, 1), 0);
    }

    private static void promise12Entry() {
        KeyKeepers x = made(TOKEN, 2);
        due("12 i -1", x.entry(-1, 0), BAD);
        due("12 what -1", x.entry(0, -1), BAD);
        due("12 what 3", x.entry(0, 3), BAD);
        due("12 none", x.entry(0, 0), NONE);
        x.want(1);
        x.want(0);
        x.come(1, 0);
        x.leave(0);
        x.come(0, 1);
        entry(x, 0, 1, 1, 2);
        entry(x, 1, 0, 0, 1);
        due("12 no third", x.entry(2, 0), NONE);
        x.leave(1);
        for (int times = 0; times < 59; times++) {
            due("12 in at once", x.want(1), 1);
            due("12 sends none", x.leave(1), 0);
        }
        due("12 ever", x.count(2), 61);
        entry(x, 0, 1, 0, 2);
        entry(x, 59, 1, 1, 2);
        due("12 the 61st", x.entry(60, 0), NONE);
        due("12 BAD first", x.entry(60, 3), BAD);
    }

    private static void entry(KeyKeepers x, int i, int... wants) {
        for (int what = 0; what < wants.length; what++) {
            due("12 entry(" + i + ", " + what + ")", x.entry(i, what), wants[what]);
        }
    }

    private static void promise13Undo() {
        KeyKeepers x = made(ASKING, 2);
        x.want(0);
        x.come(0, 1);
        x.come(1, 0);
        due("13 in", x.count(2), 1);
        due("13 coming", x.undo(), 1);
        due("13 waits again", x.keeper(0, 0), 1);
        due("13 under way again", x.letter(1, 0, 0, 0), 1);
        due("13 no entry", x.entry(0, 0), NONE);
        due("13 coming", x.undo(), 1);
        due("13 counts", x.count(4), 0);
        due("13 clock", x.keeper(1, 1), 0);
        due("13 wanted", x.undo(), 1);
        due("13 clock", x.keeper(0, 1), 0);
        due("13 none", x.undo(), NO);
        KeyKeepers y = made(TREE, 3);
        for (int times = 0; times < 100; times++) {
            y.want(0);
            y.leave(0);
        }
        due("13 thirty", y.count(9), 30);
        for (int times = 0; times < 30; times++) {
            due("13 undo", y.undo(), 1);
        }
        due("13 no more", y.undo(), NO);
        due("13 elder entries", y.count(2), 85);
        due("13 elder entries", y.entry(59, 0), 0);
        due("13 elder entries", y.entry(60, 0), NONE);
        KeyKeepers z = made(TOKEN, 2);
        z.want(1);
        z.come(1, 0);
        due("13 ahead", z.come(0, 1), 2);
        z.leave(1);
        for (int times = 0; times < 59; times++) {
            z.want(1);
            z.leave(1);
        }
        for (int times = 0; times < 15; times++) {
            z.want(1);
            z.leave(1);
        }
        for (int times = 0; times < 30; times++) {
            z.undo();
        }
        due("13 the eldest is told again", z.entry(59, 2), 2);
        due("13 FULL is no act", crowded(24).count(9), 30);
        KeyKeepers full = crowded(24);
        full.want(2);
        for (int times = 0; times < 30; times++) {
            due("13 FULL loses none", full.undo(), 1);
        }
        due("13 then none", full.undo(), NO);
    }

    private static void promise14Pass() {
        KeyKeepers x = made(ASKING, 3);
        for (int times = 0; times < 15; times++) {
            due("14 idle", x.pass(), 1);
        }
        due("14 the 16th", x.pass(), FULL);
        due("14 undo does not help", x.undo(), NO);
        x.begin(ASKING, 2);
        x.want(0);
        // The letter, the answer, in, left.
        due("14 one wants", x.pass(), 4);
        due("14 nothing changes", x.letter(0, 1, -1, 0), 1);
        due("14 nothing changes", x.count(2), 0);
        due("14 nothing changes", x.count(3), 1);
        due("14 nothing changes", x.count(9), 1);
        x.come(0, 1);
        due("14 from the state that is", x.pass(), 3);
        x.begin(ASKING, 6);
        for (int i = 0; i < 6; i++) {
            x.want(i);
        }
        due("14 spent", x.pass(), SPENT);
        due("14 300", x.passed(0), 300);
        KeyKeepers full = crowded(24);
        full.want(1);
        full.pass();
        due("14 not gone", full.passed(5) > 0 ? 1 : 0, 1);
        // One who wants of n - 1 others: each letter is under way, answered, or both: 3^4 states, and left.
        KeyKeepers y = made(ASKING, 5);
        y.want(2);
        due("14 by three, and left", y.pass(), 82);
        due("14 the most", y.passed(6), 4);
    }

    private static void promise15Passed() {
        KeyKeepers x = made(TOKEN, 2);
        due("15 what -1", x.passed(-1), BAD);
        due("15 what 7", x.passed(7), BAD);
        x.want(0);
        x.want(1);
        x.pass();
        passed(x, 6, 1, 1, 0, 0, 0, 1);
        x.begin(ASKING, 2);
        passed(x, 6, 1, 1, 0, 0, 0, 1);
        x.want(0);
        x.want(1);
        x.pass();
        due("15 two letters", x.passed(6), 2);
        due("15 one in", x.passed(2), 1);
        due("15 one end", x.passed(1), 1);
        KeyKeepers y = made(TOKEN, 3);
        for (int times = 0; times < 15; times++) {
            y.pass();
        }
        y.want(0);
        due("15 FULL", y.pass(), FULL);
        passed(y, 1, 1, 0, 0, 0, 0, 0);
        KeyKeepers z = made(TREE, 3);
        z.want(0);
        z.pass();
        passed(z, 2, 1, 1, 0, 0, 0, 0);
        // Twelve from 0 to 1, twelve from 2 to 1, nothing else: 13 * 13 states.
        KeyKeepers full = crowded(24);
        full.pass();
        passed(full, 169, 1, 0, 0, 0, 0, 24);
        for (int times = 0; times < 12; times++) {
            due("15 from 2", full.come(2, 1), 0);
        }
        full.want(1);
        full.come(1, 2);
        full.pass();
        // From 0 to 1 are 12 to 0 (13 states), and the token behind 11 to 0 (12), 1 in, and it left;
        // while twelve are under way, what 1 asks of 0 would be FULL.
        passed(full, 27, 1, 1, 0, 0, 1, 13);
    }

    private static void passed(KeyKeepers x, int... wants) {
        for (int what = 0; what < wants.length; what++) {
            due("15 passed(" + what + ")", x.passed(what), wants[what]);
        }
    }

    private static void promise16Count() {
        KeyKeepers x = made(ASKING, 3);
        due("16 what -1", x.count(-1), BAD);
        due("16 what 10", x.count(10), BAD);
        x.want(0);
        x.come(0, 1);
        x.want(2);
        count(x, 3, 0, 0, 4, 1, 0, 4, 0, 2, 3);
        x.come(0, 2);
        x.come(1, 0);
        x.come(2, 1);
        x.come(1, 2);
        // 0 with the same time and the lesser number goes before 2.
        count(x, 3, 0, 0, 4, 3, 0, 2, 0, 2, 7);
        due("16 the last gives", x.run(2, 0), 2);
        count(x, 3, 0, 1, 4, 3, 0, 0, 1, 1, 9);
        KeyKeepers y = made(TREE, 2);
        y.want(1);
        y.come(1, 0);
        y.come(0, 1);
        count(y, 2, 2, 1, 1, 0, 1, 0, 1, 0, 3);
    }

    private static void count(KeyKeepers x, int... wants) {
        for (int what = 0; what < wants.length; what++) {
            due("16 count(" + what + ")", x.count(what), wants[what]);
        }
    }
}
