import java.util.ArrayList;
import java.util.List;
import java.util.function.Supplier;
import java.util.function.ToIntFunction;

/** What the tests of the edges share: objects that stand at an edge, and a look at all that is told of one. */
final class Scene {
    static final int BAD = -1, NO = -2, FULL = -3, NONE = -4, SPENT = -5;
    static final int ASKING = 0, TOKEN = 1, TREE = 2;
    static final int LEAST = Integer.MIN_VALUE, GREATEST = Integer.MAX_VALUE;

    private Scene() {
    }

    static KeyKeepers made(int way, int n) {
        KeyKeepers x = new KeyKeepers();
        Check.due("begin(" + way + ", " + n + ")", x.begin(way, n), n);
        return x;
    }

    /** One by TOKEN asks another that has it and is idle; it gets it, and is in. */
    private static void fetch(KeyKeepers x, int i, int from) {
        Check.due("fetch, want " + i, x.want(i), 0);
        Check.due("fetch, it asks " + from, x.come(i, from), 0);
        Check.due("fetch, it is passed", x.come(from, i), 2);
    }

    /**
     * By TOKEN, 3 keepers: 2 and 0 hand the token to one another, so many times, and what they ask of 1 stays
     * under way. After an even number 0 has it, and half of them are under way from each.
     */
    static KeyKeepers crowded(int rounds) {
        KeyKeepers x = made(TOKEN, 3);
        for (int round = 0; round < rounds; round++) {
            int next = round % 2 == 0 ? 2 : 0;
            fetch(x, next, 2 - next);
            Check.due("crowded, leave", x.leave(next), 0);
        }
        return x;
    }

    /** By TOKEN, 3 keepers: 2 has the token, and from 0 to 1 and from 1 to 0 so many letters each are under way. */
    static KeyKeepers bothWays(int many) {
        KeyKeepers x = made(TOKEN, 3);
        comeBack(x, 0, 1);
        for (int round = 0; round < many; round++) {
            for (int i = 0; i < 2; i++) {
                fetch(x, i, 2);
                Check.due("both ways, leave", x.leave(i), 0);
                comeBack(x, i, 1 - i);
            }
        }
        return x;
    }

    /** The token comes back to 2 from one, and the other gets to know of it. */
    private static void comeBack(KeyKeepers x, int from, int other) {
        fetch(x, 2, from);
        Check.due("both ways, the other is asked, too", x.come(2, other), 0);
        Check.due("both ways, leave", x.leave(2), 0);
    }

    /** By TOKEN, 6 keepers: 0 is in, and 101 letters are under way, that no one answers. */
    static KeyKeepers hundredAndOne() {
        KeyKeepers x = made(TOKEN, 6);
        for (int round = 0; round < 24; round++) {
            int next = 1 - round % 2;
            fetch(x, next, 1 - next);
            Check.due("101, leave", x.leave(next), 0);
        }
        Check.due("101, 0 is in", x.want(0), 1);
        Check.due("101, 2 asks", x.want(2), 0);
        return x;
    }

    /** By ASKING: keeper 0 is in, and all others have asked it and are put off. */
    static KeyKeepers allPutOff(int n) {
        KeyKeepers x = made(ASKING, n);
        x.want(0);
        Check.due("put off, all give", x.run(100, 0), 2 * (n - 1));
        for (int j = 1; j < n; j++) {
            x.want(j);
            Check.due("put off, asks", x.come(j, 0), 0);
        }
        return x;
    }

    /** All others ask keeper 0, who is in: by TOKEN or by TREE, where 0 is the PARENT of all. */
    static KeyKeepers allAskOne(int way, int n) {
        KeyKeepers x = made(way, n);
        for (int i = 1; i < n && way == TREE; i++) {
            x.parent(i, 0);
        }
        Check.due("all ask 0, it is in", x.want(0), 1);
        for (int i = n - 1; i > 0; i--) {
            Check.due("all ask 0, want", x.want(i), 0);
            Check.due("all ask 0, asked", x.come(i, 0), 0);
        }
        return x;
    }

    /** So many entries of keeper 0, by TOKEN; each in at once, and left but for the last. */
    static KeyKeepers entered(int times) {
        KeyKeepers x = made(TOKEN, 2);
        for (int time = 1; time <= times; time++) {
            Check.due("entered, in at once", x.want(0), 1);
            if (time < times) {
                Check.due("entered, left", x.leave(0), 0);
            }
        }
        return x;
    }

    /** All that is told of an object, but for its elder entries: none of these calls changes it. */
    static List<Integer> told(KeyKeepers x) {
        List<Integer> told = new ArrayList<>();
        for (int what = 0; what <= 9; what++) {
            told.add(x.count(what));
        }
        for (int what = 0; what <= 6; what++) {
            told.add(x.passed(what));
        }
        int n = x.count(0);
        for (int i = 0; i < n; i++) {
            for (int what = 0; what <= 9; what++) {
                told.add(x.keeper(i, what));
            }
            for (int j = 0; j < n; j++) {
                told.add(x.knows(i, j));
                addLetters(told, x, i, j);
            }
            told.add(x.token(0, i));
            told.add(x.token(1, i));
        }
        for (int i = 0; i < 4; i++) {
            told.add(x.entry(i, 0) + 10 * x.entry(i, 1));
            told.add(x.entry(i, 2));
        }
        return told;
    }

    private static void addLetters(List<Integer> told, KeyKeepers x, int i, int j) {
        int many = i == j ? 0 : x.letter(i, j, -1, 0);
        told.add(many);
        for (int k = 0; k < many; k++) {
            told.add(x.letter(i, j, k, 0) + 10 * x.letter(i, j, k, 1));
        }
    }

    /** A call is refused on an object, and all that is told stays as it is on its twin, on whom it was not called. */
    static void refused(String call, Supplier<KeyKeepers> scene, ToIntFunction<KeyKeepers> act, int want) {
        KeyKeepers x = scene.get();
        KeyKeepers twin = scene.get();
        Check.due(call, act.applyAsInt(x), want);
        Check.due(call + ": nothing changes", told(x).equals(told(twin)) ? 1 : 0, 1);
        for (int times = 0; times <= 30; times++) {
            Check.due(call + ": undo() then", x.undo(), twin.undo());
        }
        for (int what = 0; what <= 9; what++) {
            Check.due(call + ": count(" + what + "), all taken back", x.count(what), twin.count(what));
        }
    }
}
