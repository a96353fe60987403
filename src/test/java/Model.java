import java.util.ArrayDeque;
import java.util.ArrayList;
import java.util.Collections;
import java.util.Deque;
import java.util.LinkedHashMap;
import java.util.List;
import java.util.Map;
import java.util.TreeMap;
import java.util.TreeSet;

/**
 * The document once more, written apart from KeyKeepers: with lists, copies and exceptions,
 * so that one mistake is not made twice in the same way.
 */
final class Model {
    static final int BAD = -1, NO = -2, FULL = -3, NONE = -4, SPENT = -5;

    /** An act that would send a letter too many. */
    private static final class NoRoom extends RuntimeException {
        private static final long serialVersionUID = 1L;
    }

    /** A letter: kind 0 ASKED, 1 GIVEN, 2 PASSED. */
    private record Letter(int kind, int number) {
    }

    /** An entry: who, the wait, the letters sent by then. */
    private record Entry(int who, int others, int sent) {
    }

    /** What one keeper has. */
    private static final class Keeper {
        String mode = "idle";
        int clock;
        int time;
        TreeSet<Integer> gave = new TreeSet<>();
        TreeSet<Integer> off = new TreeSet<>();
        TreeMap<Integer, Integer> known = new TreeMap<>();
        int parent;
        int holder;
        boolean hasAsked;
        List<Integer> queue = new ArrayList<>();
        int wantedAt;

        Keeper copy() {
            Keeper k = new Keeper();
            k.mode = mode;
            k.clock = clock;
            k.time = time;
            k.gave = new TreeSet<>(gave);
            k.off = new TreeSet<>(off);
            k.known = new TreeMap<>(known);
            k.parent = parent;
            k.holder = holder;
            k.hasAsked = hasAsked;
            k.queue = new ArrayList<>(queue);
            k.wantedAt = wantedAt;
            return k;
        }

        String text() {
            return mode + clock + "," + time + gave + off + known + parent + "," + holder + hasAsked + queue;
        }
    }

    /** All keepers, letters, the token, entries and counts. */
    private static final class World {
        final int way;
        List<Keeper> keepers = new ArrayList<>();
        TreeMap<Integer, List<Letter>> letters = new TreeMap<>();
        int tokenAt;
        int[] stands;
        List<Integer> row = new ArrayList<>();
        List<Entry> entries = new ArrayList<>();
        int[] sent = new int[3];

        World(int way) {
            this.way = way;
        }

        static World first(int way, int n) {
            World w = new World(way);
            w.stands = new int[n];
            for (int i = 0; i < n; i++) {
                Keeper k = new Keeper();
                k.parent = i == 0 ? -1 : (i - 1) / 2;
                k.holder = Math.max(k.parent, 0);
                for (int j = 0; j < n; j++) {
                    k.known.put(j, 0);
                }
                w.keepers.add(k);
            }
            return w;
        }

        World copy() {
            World w = new World(way);
            for (Keeper k : keepers) {
                w.keepers.add(k.copy());
            }
            for (Map.Entry<Integer, List<Letter>> e : letters.entrySet()) {
                w.letters.put(e.getKey(), new ArrayList<>(e.getValue()));
            }
            w.tokenAt = tokenAt;
            w.stands = stands.clone();
            w.row = new ArrayList<>(row);
            w.entries = new ArrayList<>(entries);
            w.sent = sent.clone();
            return w;
        }

        String text() {
            StringBuilder text = new StringBuilder();
            for (Keeper k : keepers) {
                text.append(k.text()).append('/');
            }
            for (Map.Entry<Integer, List<Letter>> e : letters.entrySet()) {
                if (!e.getValue().isEmpty()) {
                    text.append(e.getKey()).append(e.getValue());
                }
            }
            text.append(tokenAt).append(java.util.Arrays.toString(stands)).append(row);
            return text.toString();
        }

        int n() {
            return keepers.size();
        }

        List<Letter> between(int i, int j) {
            return letters.computeIfAbsent(i * 10 + j, key -> new ArrayList<>());
        }

        void send(int i, int j, int kind, int number) {
            if (between(i, j).size() >= 12) {
                throw new NoRoom();
            }
            between(i, j).add(new Letter(kind, number));
            sent[kind]++;
        }

        int sentInAll() {
            return sent[0] + sent[1] + sent[2];
        }

        int underWay() {
            int all = 0;
            for (List<Letter> some : letters.values()) {
                all += some.size();
            }
            return all;
        }

        int howMany(String mode) {
            int many = 0;
            for (Keeper k : keepers) {
                if (k.mode.equals(mode)) {
                    many++;
                }
            }
            return many;
        }

        boolean hasToken(int i) {
            return way == 1 ? tokenAt == i : way == 2 && keepers.get(i).holder == i;
        }

        boolean lost() {
            if (way == 0) {
                return false;
            }
            for (List<Letter> some : letters.values()) {
                for (Letter letter : some) {
                    if (letter.kind() == 2) {
                        return false;
                    }
                }
            }
            for (int i = 0; i < n(); i++) {
                if (hasToken(i)) {
                    return false;
                }
            }
            return true;
        }

        void enter(int i) {
            Keeper k = keepers.get(i);
            k.mode = "in";
            entries.add(new Entry(i, entries.size() - k.wantedAt, sentInAll()));
        }

        void want(int i) {
            Keeper k = keepers.get(i);
            k.mode = "waits";
            k.wantedAt = entries.size();
            switch (way) {
                case 0 -> {
                    k.clock++;
                    k.time = k.clock;
                    k.gave.clear();
                    for (int j = 0; j < n(); j++) {
                        if (i != j) {
                            send(i, j, 0, k.time);
                        }
                    }
                }
                case 1 -> {
                    if (tokenAt == i) {
                        enter(i);
                    } else {
                        k.known.merge(i, 1, Integer::sum);
                        for (int j = 0; j < n(); j++) {
                            if (i != j) {
                                send(i, j, 0, k.known.get(i));
                            }
                        }
                    }
                }
                default -> {
                    k.queue.add(i);
                    rules(i);
                }
            }
        }

        void leave(int i) {
            Keeper k = keepers.get(i);
            k.mode = "idle";
            switch (way) {
                case 0 -> {
                    for (int j : k.off) {
                        send(i, j, 1, 0);
                    }
                    k.off.clear();
                }
                case 1 -> {
                    stands[i] = k.known.get(i);
                    for (int j = 0; j < n(); j++) {
                        if (!row.contains(j) && k.known.get(j) == stands[j] + 1) {
                            row.add(j);
                        }
                    }
                    if (!row.isEmpty()) {
                        tokenAt = -1;
                        send(i, row.remove(0), 2, 0);
                    }
                }
                default -> rules(i);
            }
        }

        int come(int from, int to) {
            Letter letter = between(from, to).remove(0);
            Keeper k = keepers.get(to);
            if (way == 0 && letter.kind() == 0) {
                int t = letter.number();
                k.clock = Math.max(k.clock, t) + 1;
                boolean first = k.mode.equals("waits") && (k.time < t || k.time == t && to < from);
                if (k.mode.equals("in") || first) {
                    k.off.add(from);
                } else {
                    send(to, from, 1, 0);
                }
            } else if (way == 0) {
                k.gave.add(from);
                if (k.gave.size() == n() - 1) {
                    enter(to);
                }
            } else if (way == 1 && letter.kind() == 0) {
                k.known.put(from, Math.max(k.known.get(from), letter.number()));
                if (tokenAt == to && k.mode.equals("idle") && k.known.get(from) == stands[from] + 1) {
                    tokenAt = -1;
                    send(to, from, 2, 0);
                }
            } else if (way == 1) {
                tokenAt = to;
                enter(to);
            } else {
                if (letter.kind() == 0) {
                    k.queue.add(from);
                } else {
                    k.holder = to;
                }
                rules(to);
            }
            return letter.kind();
        }

        void rules(int i) {
            Keeper k = keepers.get(i);
            if (k.holder == i && !k.mode.equals("in") && !k.queue.isEmpty()) {
                k.holder = k.queue.remove(0);
                k.hasAsked = false;
                if (k.holder == i) {
                    enter(i);
                } else {
                    send(i, k.holder, 2, 0);
                }
            }
            if (k.holder != i && !k.queue.isEmpty() && !k.hasAsked) {
                send(i, k.holder, 0, 0);
                k.hasAsked = true;
            }
        }
    }

    private World world = World.first(0, 2);
    private final Deque<World> past = new ArrayDeque<>();
    private int begins;
    private int passes;
    private boolean acted;
    private int[] told = new int[7];

    private boolean isKeeper(int i) {
        return 0 <= i && i < world.n();
    }

    private boolean isPair(int i, int j) {
        return isKeeper(i) && isKeeper(j) && i != j;
    }

    private void done(World next) {
        past.addLast(world);
        if (past.size() > 30) {
            past.removeFirst();
        }
        world = next;
        acted = true;
    }

    int begin(int way, int n) {
        if (way < 0 || way > 2 || n < 2 || n > 6) {
            return BAD;
        }
        if (begins == 10) {
            return FULL;
        }
        begins++;
        world = World.first(way, n);
        past.clear();
        passes = 0;
        acted = false;
        return n;
    }

    int parent(int i, int p) {
        if (i < 1 || !isKeeper(i) || p < 0 || p >= i) {
            return BAD;
        }
        if (world.way != 2 || acted) {
            return NO;
        }
        Keeper k = world.keepers.get(i);
        int was = k.parent;
        k.parent = p;
        k.holder = p;
        return was;
    }

    int want(int i) {
        if (!isKeeper(i)) {
            return BAD;
        }
        if (!world.keepers.get(i).mode.equals("idle")) {
            return NO;
        }
        World next = world.copy();
        try {
            next.want(i);
        } catch (NoRoom noRoom) {
            return FULL;
        }
        done(next);
        return world.keepers.get(i).mode.equals("in") ? 1 : 0;
    }

    int leave(int i) {
        if (!isKeeper(i)) {
            return BAD;
        }
        if (!world.keepers.get(i).mode.equals("in")) {
            return NO;
        }
        World next = world.copy();
        try {
            next.leave(i);
        } catch (NoRoom noRoom) {
            return FULL;
        }
        int sent = next.sentInAll() - world.sentInAll();
        done(next);
        return sent;
    }

    int come(int i, int j) {
        if (!isPair(i, j)) {
            return BAD;
        }
        if (world.between(i, j).isEmpty()) {
            return NO;
        }
        World next = world.copy();
        int kind;
        try {
            kind = next.come(i, j);
        } catch (NoRoom noRoom) {
            return FULL;
        }
        done(next);
        return kind;
    }

    int run(int k, int seed) {
        if (k < 1 || k > 100 || seed < 0) {
            return BAD;
        }
        java.math.BigInteger drawn = java.math.BigInteger.valueOf(seed);
        for (int came = 0; came < k; came++) {
            List<int[]> pairs = pairs(world);
            if (pairs.isEmpty()) {
                return came;
            }
            int[] pair = pairs.get(drawn.mod(java.math.BigInteger.valueOf(pairs.size())).intValue());
            if (come(pair[0], pair[1]) == FULL) {
                return came;
            }
            drawn = drawn.multiply(java.math.BigInteger.valueOf(1103515245L))
                .add(java.math.BigInteger.valueOf(12345L))
                .mod(java.math.BigInteger.valueOf(2147483648L))
                .divide(java.math.BigInteger.valueOf(8L));
        }
        return k;
    }

    private static List<int[]> pairs(World w) {
        List<int[]> pairs = new ArrayList<>();
        for (int i = 0; i < w.n(); i++) {
            for (int j = 0; j < w.n(); j++) {
                if (i != j && !w.between(i, j).isEmpty()) {
                    pairs.add(new int[] {i, j});
                }
            }
        }
        return pairs;
    }

    int keeper(int i, int what) {
        if (!isKeeper(i) || what < 0 || what > 9) {
            return BAD;
        }
        Keeper k = world.keepers.get(i);
        int way = world.way;
        return switch (what) {
            case 0 -> List.of("idle", "waits", "in").indexOf(k.mode);
            case 1 -> k.clock;
            case 2 -> way == 1 ? k.known.get(i) : k.time;
            case 3 -> way == 0 && k.mode.equals("waits") ? world.n() - 1 - k.gave.size() : 0;
            case 4 -> k.off.stream().mapToInt(j -> 1 << j).sum();
            case 5 -> world.hasToken(i) ? 1 : 0;
            case 6 -> way == 2 ? k.holder : NONE;
            case 7 -> k.hasAsked ? 1 : 0;
            case 8 -> k.queue.size();
            default -> way == 2 && i > 0 ? k.parent : NONE;
        };
    }

    int knows(int i, int j) {
        if (world.way == 0 || !isKeeper(i)) {
            return NONE;
        }
        Keeper k = world.keepers.get(i);
        if (world.way == 1) {
            return k.known.getOrDefault(j, NONE);
        }
        return 0 <= j && j < k.queue.size() ? k.queue.get(j) : NONE;
    }

    int token(int what, int k) {
        if (what != 0 && what != 1 || !isKeeper(k)) {
            return BAD;
        }
        if (world.way != 1) {
            return NO;
        }
        if (what == 0) {
            return world.stands[k];
        }
        return k < world.row.size() ? world.row.get(k) : NONE;
    }

    int letter(int i, int j, int k, int what) {
        if (!isPair(i, j) || k < -1 || what != 0 && what != 1) {
            return BAD;
        }
        List<Letter> some = world.between(i, j);
        if (k == -1) {
            return some.size();
        }
        if (k >= some.size()) {
            return NONE;
        }
        return what == 0 ? some.get(k).kind() : some.get(k).number();
    }

    int entry(int i, int what) {
        if (i < 0 || what < 0 || what > 2) {
            return BAD;
        }
        if (i >= 60 || i >= world.entries.size()) {
            return NONE;
        }
        Entry entry = world.entries.get(world.entries.size() - 1 - i);
        return what == 0 ? entry.who() : what == 1 ? entry.others() : entry.sent();
    }

    int undo() {
        if (past.isEmpty()) {
            return NO;
        }
        world = past.removeLast();
        return 1;
    }

    int pass() {
        if (passes == 15) {
            return FULL;
        }
        passes++;
        told = new int[7];
        LinkedHashMap<String, World> states = new LinkedHashMap<>();
        Deque<World> open = new ArrayDeque<>();
        states.put(world.text(), world);
        open.add(world);
        boolean spent = false;
        while (!open.isEmpty()) {
            World w = open.removeFirst();
            List<World> brings = brings(w);
            told[1] += brings.isEmpty() ? 1 : 0;
            told[2] = Math.max(told[2], w.howMany("in"));
            told[3] += brings.isEmpty() && w.howMany("waits") > 0 ? 1 : 0;
            told[4] += w.howMany("in") == 0 && w.lost() ? 1 : 0;
            told[6] = Math.max(told[6], w.underWay());
            for (World next : brings) {
                String text = next.text();
                if (states.containsKey(text)) {
                    continue;
                }
                if (states.size() == 300) {
                    spent = true;
                } else {
                    states.put(text, next);
                    open.addLast(next);
                }
            }
        }
        told[0] = states.size();
        return spent ? SPENT : states.size();
    }

    private List<World> brings(World w) {
        List<World> brings = new ArrayList<>();
        for (int[] pair : pairs(w)) {
            World next = w.copy();
            try {
                next.come(pair[0], pair[1]);
                brings.add(next);
            } catch (NoRoom noRoom) {
                told[5]++;
            }
        }
        for (int i = 0; i < w.n(); i++) {
            if (w.keepers.get(i).mode.equals("in")) {
                World next = w.copy();
                try {
                    next.leave(i);
                    brings.add(next);
                } catch (NoRoom noRoom) {
                    told[5]++;
                }
            }
        }
        return Collections.unmodifiableList(brings);
    }

    int passed(int what) {
        return what < 0 || what > 6 ? BAD : told[what];
    }

    int count(int what) {
        return switch (what) {
            case 0 -> world.n();
            case 1 -> world.way;
            case 2 -> world.entries.size();
            case 3, 4, 5 -> world.sent[what - 3];
            case 6 -> world.underWay();
            case 7 -> world.howMany("in");
            case 8 -> world.howMany("waits");
            case 9 -> past.size();
            default -> BAD;
        };
    }
}
