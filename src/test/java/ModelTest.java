import java.util.Random;

/** Runs of up to 512 calls, drawn from fixed seeds, on KeyKeepers and on Model: all answers are alike. */
public final class ModelTest {
    private static final int RUNS = 2400;
    private static final int CALLS = 512;
    private static final int MOST_AT_ONCE = 60;

    private final Random random;
    private final KeyKeepers x = new KeyKeepers();
    private final Model model = new Model();
    private final String name;
    /** One of three by TOKEN wants seldom, and letters to it come seldom, so that they grow many; -1: none. */
    private final int shunned;
    private int n = 2;
    private int way;
    private int calls;

    private ModelTest(int seed) {
        random = new Random(seed);
        name = "ModelTest, run " + seed + ", ";
        shunned = random.nextInt(3) == 0 ? 1 + random.nextInt(2) : -1;
    }

    public static void main(String[] args) {
        int[] seen = new int[6];
        for (int seed = 0; seed < RUNS; seed++) {
            new ModelTest(seed).run(seen);
        }
        for (int k = 1; k < seen.length; k++) {
            Check.due("ModelTest, answer " + -k + " seen often", Math.min(seen[k], 100), 100);
        }
        Check.end();
    }

    private void run(int[] seen) {
        if (shunned >= 0) {
            begin(1, 3);
            crowd(18 + random.nextInt(8));
        } else if (random.nextInt(10) != 0) {
            begin(random.nextInt(3), 2 + random.nextInt(5));
        }
        boolean passes = random.nextInt(8) == 0;
        while (calls < CALLS - MOST_AT_ONCE) {
            int answer = random.nextInt(3) == 0 ? look(passes) : act();
            if (answer < 0 && answer > -6) {
                seen[-answer]++;
            }
        }
    }

    /** The two others hand the token to one another. */
    private void crowd(int rounds) {
        int has = 0;
        for (int round = 0; round < rounds; round++) {
            int next = 3 - shunned - has;
            due("want", x.want(next), model.want(next));
            due("come", x.come(next, has), model.come(next, has));
            due("come", x.come(has, next), model.come(has, next));
            due("leave", x.leave(next), model.leave(next));
            has = next;
        }
    }

    private int due(String call, int got, int want) {
        calls++;
        Check.due(name + call, got, want);
        return got;
    }

    private int begin(int newWay, int newN) {
        int answer = due("begin", x.begin(newWay, newN), model.begin(newWay, newN));
        if (answer > 0) {
            n = newN;
            way = newWay;
        }
        return answer;
    }

    /** A keeper, seldom one that is none. */
    private int some() {
        return random.nextInt(40) == 0 ? random.nextInt(12) - 3 : random.nextInt(n);
    }

    private int act() {
        int draw = random.nextInt(100);
        if (draw < 25) {
            int i = some();
            if (i == shunned && random.nextInt(20) != 0) {
                i = 0;
            }
            return due("want", x.want(i), model.want(i));
        }
        if (draw < 45) {
            return leave();
        }
        if (draw < 85) {
            return come();
        }
        if (draw < 91) {
            int i = some();
            int p = random.nextInt(4) == 0 ? some() : random.nextInt(Math.max(i, 1));
            return due("parent", x.parent(i, p), model.parent(i, p));
        }
        if (draw < 97) {
            return random.nextInt(3) == 0 && (shunned < 0 || random.nextInt(4) == 0) ? undo() : come();
        }
        if (draw < 99 && (shunned < 0 || random.nextInt(4) == 0)) {
            int k = random.nextInt(4) == 0 ? random.nextInt(110) - 3 : random.nextInt(6);
            int seed = random.nextInt(20) == 0 ? -1 : random.nextInt() & Integer.MAX_VALUE;
            return due("run", x.run(k, seed), model.run(k, seed));
        }
        if (random.nextInt(3) == 0 && shunned < 0) {
            return random.nextInt(2) == 0
                ? begin(random.nextInt(5) - 1, random.nextInt(8))
                : begin(way, n);
        }
        return leave();
    }

    private int leave() {
        int i = some();
        for (int k = 0; k < n && random.nextInt(30) != 0; k++) {
            if (model.keeper(k, 0) == 2) {
                i = k;
            }
        }
        return due("leave", x.leave(i), model.leave(i));
    }

    private int undo() {
        int times = random.nextInt(10) == 0 ? 35 : 1;
        int answer = 0;
        for (int k = 0; k < times; k++) {
            answer = due("undo", x.undo(), model.undo());
        }
        return answer;
    }

    private int come() {
        int i = some();
        int j = some();
        for (int tries = 0; tries < 20 && random.nextInt(30) != 0; tries++) {
            boolean shuns = j == shunned && random.nextInt(40) != 0;
            if (model.letter(i, j, -1, 0) > 0 && !shuns) {
                break;
            }
            i = random.nextInt(n);
            j = random.nextInt(n);
        }
        return due("come", x.come(i, j), model.come(i, j));
    }

    private int look(boolean passes) {
        int i = some();
        int j = some();
        int what = random.nextInt(12) - 1;
        int small = random.nextInt(5) - 1;
        switch (random.nextInt(10)) {
            case 0:
                return due("keeper", x.keeper(i, what), model.keeper(i, what));
            case 1:
                return due("knows", x.knows(i, j), model.knows(i, j));
            case 2:
                return due("token", x.token(small, j), model.token(small, j));
            case 3:
                int k = random.nextInt(15) - 2;
                return due("letter", x.letter(i, j, k, small), model.letter(i, j, k, small));
            case 4:
                int place = random.nextInt(2) == 0 ? random.nextInt(5) : random.nextInt(64) - 2;
                return due("entry", x.entry(place, small), model.entry(place, small));
            case 5:
                return due("passed", x.passed(what), model.passed(what));
            case 6:
                return due("count", x.count(what), model.count(what));
            case 7:
                if (passes || random.nextInt(30) == 0) {
                    return pass();
                }
                return due("count", x.count(what), model.count(what));
            default:
                if (random.nextInt(6) == 0) {
                    return all(i, j);
                }
                return due("letter", x.letter(i, j, 0, 1), model.letter(i, j, 0, 1));
        }
    }

    /** All that is told of keeper i, and of what is under way from i to j. */
    private int all(int i, int j) {
        int answer = 0;
        for (int what = 0; what < 10; what++) {
            answer = due("keeper " + what, x.keeper(i, what), model.keeper(i, what));
        }
        for (int k = 0; k < 6; k++) {
            due("knows " + k, x.knows(i, k), model.knows(i, k));
            due("token 0 " + k, x.token(0, k), model.token(0, k));
            due("token 1 " + k, x.token(1, k), model.token(1, k));
        }
        for (int k = -1; k < 12; k++) {
            due("letter " + k, x.letter(i, j, k, 0), model.letter(i, j, k, 0));
            due("letter " + k, x.letter(i, j, k, 1), model.letter(i, j, k, 1));
        }
        return answer;
    }

    private int pass() {
        int answer = due("pass", x.pass(), model.pass());
        for (int what = 0; what < 7; what++) {
            due("passed " + what, x.passed(what), model.passed(what));
        }
        return answer;
    }
}
