import java.util.ArrayDeque;
import java.util.ArrayList;
import java.util.Arrays;
import java.util.Deque;
import java.util.List;
import java.util.TreeMap;
import java.util.TreeSet;

/** The document once more, in other ways than the program's: slow, with the Java library, for tests alone. */
final class Plain {
    private static final int NEVER = 1000;

    private static final class Was {
        final boolean[][] doors;
        final TreeSet<Integer> rabbit;

        Was(boolean[][] doors, TreeSet<Integer> rabbit) {
            this.doors = doors;
            this.rabbit = rabbit;
        }
    }

    private int size = 1;
    private boolean[][] doors = new boolean[1][1];
    private TreeSet<Integer> rabbit = rooms();
    private final Deque<Was> deeds = new ArrayDeque<>();
    // Kept until a door changes: else the long runs take minutes.
    private final int[][][] knownTimes = new int[3][][];

    private TreeSet<Integer> rooms() {
        TreeSet<Integer> all = new TreeSet<>();
        for (int room = 0; room < size; room++) {
            all.add(room);
        }
        return all;
    }

    private static int bits(Iterable<Integer> set) {
        int bits = 0;
        for (int room : set) {
            bits += (int) Math.pow(2, room);
        }
        return bits;
    }

    private TreeSet<Integer> setOf(int bits) {
        if (bits < 0 || bits >= (int) Math.pow(2, size)) {
            throw new IllegalArgumentException();
        }
        TreeSet<Integer> set = rooms();
        set.removeIf(room -> (bits >> room) % 2 == 0);
        return set;
    }

    private TreeSet<Integer> nextOnes(int room) {
        TreeSet<Integer> found = rooms();
        found.removeIf(other -> !doors[room][other]);
        return found;
    }

    private TreeSet<Integer> nearOnes(int room) {
        TreeSet<Integer> found = nextOnes(room);
        found.add(room);
        return found;
    }

    private void look(int room) {
        if (room < 0 || room >= size) {
            throw new IndexOutOfBoundsException();
        }
    }

    private void look(int one, int two, int robber) {
        look(one);
        look(robber);
        if (two != -1) {
            look(two);
        }
    }

    private static void lookRange(int number, int low, int high) {
        if (number < low || number > high) {
            throw new IllegalArgumentException();
        }
    }

    private void keep() {
        if (deeds.size() == 200) {
            throw new IllegalStateException();
        }
        boolean[][] copy = new boolean[size][];
        for (int room = 0; room < size; room++) {
            copy[room] = doors[room].clone();
        }
        deeds.push(new Was(copy, new TreeSet<>(rabbit)));
    }

    private void begin(int many) {
        size = many;
        doors = new boolean[many][many];
        Arrays.fill(knownTimes, null);
        deeds.clear();
        rabbit = rooms();
    }

    int rooms(int many) {
        lookRange(many, 1, 9);
        int before = size;
        begin(many);
        return before;
    }

    int family(int family) {
        lookRange(family, 0, 3);
        if (family == 1 && size < 3) {
            throw new IllegalStateException();
        }
        begin(size);
        for (int room = 0; room + 1 < size; room++) {
            if (family == 0 || family == 1) {
                set(room, room + 1, true);
            } else if (family == 2) {
                set(0, room + 1, true);
            } else {
                for (int other = room + 1; other < size; other++) {
                    set(room, other, true);
                }
            }
        }
        if (family == 1) {
            set(0, size - 1, true);
        }
        return doors();
    }

    private void set(int room, int other, boolean is) {
        doors[room][other] = is;
        doors[other][room] = is;
        Arrays.fill(knownTimes, null);
    }

    boolean door(int room, int other, boolean is) {
        look(room);
        look(other);
        if (room == other) {
            throw new IllegalArgumentException();
        }
        boolean was = doors[room][other];
        if (was != is) {
            keep();
            set(room, other, is);
            rabbit = rooms();
        }
        return was;
    }

    private TreeSet<Integer> shot(TreeSet<Integer> set, int room) {
        TreeSet<Integer> then = new TreeSet<>();
        for (int from : set) {
            if (from != room) {
                then.addAll(nextOnes(from));
            }
        }
        return then;
    }

    int shoot(int room) {
        look(room);
        if (rabbit.isEmpty()) {
            throw new IllegalStateException();
        }
        keep();
        rabbit = shot(rabbit, room);
        return bits(rabbit);
    }

    int back() {
        if (deeds.isEmpty()) {
            throw new IllegalStateException();
        }
        Was was = deeds.pop();
        doors = was.doors;
        Arrays.fill(knownTimes, null);
        rabbit = was.rabbit;
        return deeds.size();
    }

    int doors() {
        int many = 0;
        for (int room = 0; room < size; room++) {
            for (int other = 0; other < room; other++) {
                many += doors[room][other] ? 1 : 0;
            }
        }
        return many;
    }

    int next(int room) {
        look(room);
        return bits(nextOnes(room));
    }

    // ---- the chase, with the robber and the cops in a list of places: the first is the robber's

    private List<List<Integer>> copPlaces(int cops) {
        List<List<Integer>> found = new ArrayList<>();
        for (int one = 0; one < size; one++) {
            if (cops == 1) {
                found.add(List.of(one));
                continue;
            }
            for (int two = one; two < size; two++) {
                found.add(List.of(one, two));
            }
        }
        return found;
    }

    private static List<Integer> placed(int one, int two) {
        return two == -1 ? List.of(one) : List.of(Math.min(one, two), Math.max(one, two));
    }

    private TreeMap<Integer, List<Integer>> copMoves(List<Integer> cops) {
        TreeMap<Integer, List<Integer>> found = new TreeMap<>();
        for (int one : nearOnes(cops.get(0))) {
            if (cops.size() == 1) {
                found.put(one, List.of(one));
                continue;
            }
            for (int two : nearOnes(cops.get(1))) {
                List<Integer> to = placed(one, two);
                found.put(10 * to.get(0) + to.get(1), to);
            }
        }
        return found;
    }

    private static int key(List<Integer> cops) {
        return cops.size() == 1 ? cops.get(0) : 10 + 10 * cops.get(0) + cops.get(1);
    }

    /** Times, the cops moving first, by letting guesses sink from NEVER until none sinks any more. */
    private int[][] times(int cops) {
        if (knownTimes[cops] == null) {
            knownTimes[cops] = findTimes(cops);
        }
        return knownTimes[cops];
    }

    private int[][] findTimes(int cops) {
        int[][] times = new int[101][size];
        for (int[] row : times) {
            Arrays.fill(row, NEVER);
        }
        for (boolean sinks = true; sinks;) {
            sinks = false;
            for (List<Integer> places : copPlaces(cops)) {
                for (int robber = 0; robber < size; robber++) {
                    int time = places.contains(robber) ? 0 : NEVER;
                    if (time > 0) {
                        for (List<Integer> to : copMoves(places).values()) {
                            time = Math.min(time, Math.min(NEVER, 1 + robberFirst(times, to, robber)));
                        }
                    }
                    if (time < times[key(places)][robber]) {
                        times[key(places)][robber] = time;
                        sinks = true;
                    }
                }
            }
        }
        return times;
    }

    private int robberFirst(int[][] times, List<Integer> cops, int robber) {
        if (cops.contains(robber)) {
            return 0;
        }
        int most = 0;
        for (int to : nearOnes(robber)) {
            most = Math.max(most, times[key(cops)][to]);
        }
        return most;
    }

    private static int orNone(int number) {
        return number >= NEVER ? -1 : number;
    }

    int time(int one, int two, int robber) {
        look(one, two, robber);
        List<Integer> cops = placed(one, two);
        return orNone(times(cops.size())[key(cops)][robber]);
    }

    int timeAnew(int one, int two, int robber, int most) {
        look(one, two, robber);
        lookRange(most, 0, 3);
        int time = time(one, two, robber);
        return time > most ? -1 : time;
    }

    int step(int one, int two, int robber) {
        look(one, two, robber);
        List<Integer> cops = placed(one, two);
        int[][] times = times(cops.size());
        int best = -1;
        int least = NEVER;
        if (cops.contains(robber)) {
            return -1;
        }
        TreeMap<Integer, List<Integer>> moves = copMoves(cops);
        for (int number : moves.keySet()) {
            int time = robberFirst(times, moves.get(number), robber);
            if (time < least) {
                least = time;
                best = number;
            }
        }
        return best;
    }

    int away(int one, int two, int robber) {
        look(one, two, robber);
        List<Integer> cops = placed(one, two);
        int[][] times = times(cops.size());
        int best = -1;
        int longest = -1;
        if (cops.contains(robber)) {
            return -1;
        }
        for (int to : nearOnes(robber)) {
            if (times[key(cops)][to] > longest) {
                longest = times[key(cops)][to];
                best = to;
            }
        }
        return best;
    }

    boolean catches(int cops) {
        lookRange(cops, 1, 2);
        int[][] times = times(cops);
        for (List<Integer> places : copPlaces(cops)) {
            if (Arrays.stream(times[key(places)]).max().getAsInt() < NEVER) {
                return true;
            }
        }
        return false;
    }

    /** Takes the highest corner each time: the document says that it does not matter which. */
    boolean fallsApart() {
        TreeSet<Integer> left = rooms();
        for (boolean taken = true; taken;) {
            taken = false;
            for (int room : left.descendingSet()) {
                TreeSet<Integer> around = nearOnes(room);
                around.retainAll(left);
                boolean isCorner = false;
                for (int other : left) {
                    isCorner |= other != room && nearOnes(other).containsAll(around);
                }
                if (isCorner) {
                    left.remove(room);
                    taken = true;
                    break;
                }
            }
        }
        return left.size() == 1;
    }

    int rabbit() {
        return bits(rabbit);
    }

    /** From the set on, shot by shot, through all sets that can come. */
    private int huntOf(TreeSet<Integer> from) {
        List<TreeSet<Integer>> now = List.of(from);
        boolean[] seen = new boolean[(int) Math.pow(2, size)];
        seen[bits(from)] = true;
        for (int shots = 0; !now.isEmpty(); shots++) {
            List<TreeSet<Integer>> then = new ArrayList<>();
            for (TreeSet<Integer> set : now) {
                if (set.isEmpty()) {
                    return shots;
                }
                for (int room = 0; room < size; room++) {
                    TreeSet<Integer> comes = shot(set, room);
                    if (!seen[bits(comes)]) {
                        seen[bits(comes)] = true;
                        then.add(comes);
                    }
                }
            }
            now = then;
        }
        return -1;
    }

    int hunt() {
        return huntOf(rabbit);
    }

    int huntAnew(int most) {
        lookRange(most, 0, 4);
        int hunt = hunt();
        return hunt > most ? -1 : hunt;
    }

    int aim() {
        int hunt = hunt();
        for (int room = 0; hunt > 0 && room < size; room++) {
            if (huntOf(shot(rabbit, room)) == hunt - 1) {
                return room;
            }
        }
        return -1;
    }

    private TreeSet<Integer> round(TreeSet<Integer> blue) {
        TreeSet<Integer> then = new TreeSet<>(blue);
        for (int room : blue) {
            TreeSet<Integer> white = nextOnes(room);
            white.removeAll(blue);
            if (white.size() == 1) {
                then.addAll(white);
            }
        }
        return then;
    }

    int forced(int blue) {
        TreeSet<Integer> now = setOf(blue);
        for (TreeSet<Integer> then = round(now); !then.equals(now); then = round(now)) {
            now = then;
        }
        return bits(now);
    }

    int rounds(int blue) {
        TreeSet<Integer> now = setOf(blue);
        int many = 0;
        for (TreeSet<Integer> then = round(now); !then.equals(now); then = round(now)) {
            now = then;
            many++;
        }
        return many;
    }

    int leastBlue() {
        int all = bits(rooms());
        for (int many = 0; many <= size; many++) {
            for (int blue = 0; blue <= all; blue++) {
                if (setOf(blue).size() == many && forced(blue) == all) {
                    return blue;
                }
            }
        }
        return -1;
    }
}
