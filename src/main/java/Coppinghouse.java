/**
 * Chases on graphs: rooms with doors, cops and a robber, a rabbit that is shot at in the dark,
 * and colours that force their way. Sets of rooms are told by bits, the bit k for the room k.
 */
public final class Coppinghouse {
    public static final int NONE = -1;
    public static final int PATH = 0, RING = 1, STAR = 2, ALL = 3;

    private static final int MOST_ROOMS = 9;
    private static final int SETS = 1 << MOST_ROOMS;
    private static final int LEAST_RING = 3;
    private static final int MOST_DEEDS = 200;
    private static final int MOST_MOVES_PLAYED = 3;
    private static final int MOST_SHOTS_PLAYED = 4;
    // Above every time that there can be: an escape counts as greater than all of them.
    private static final int FOR_EVER = 1 << 30;

    // A second cop who is not there stands in a place of his own that has no doors and that the
    // robber never comes to: so the game of one cop is a part of the game of two.
    private static final int NOWHERE = MOST_ROOMS;
    private static final int PLACES = MOST_ROOMS + 1;

    private final Graph graph;
    private final Deeds deeds;
    private final Chase chase;
    private final Burrow burrow;
    private final Colours colours;
    private int rabbitSet;

    public Coppinghouse() {
        graph = new Graph();
        deeds = new Deeds();
        chase = new Chase();
        burrow = new Burrow();
        colours = new Colours();
        rabbitSet = graph.all();
    }

    // ---- rooms, doors, deeds

    public int rooms(int many) throws IllegalArgumentException {
        if (many < 1 || many > MOST_ROOMS) {
            throw new IllegalArgumentException("there are 1 to 9 rooms");
        }
        int before = graph.size();
        graph.begin(many);
        beginDeeds();
        return before;
    }

    public int family(int family) throws IllegalArgumentException, IllegalStateException {
        if (family < PATH || family > ALL) {
            throw new IllegalArgumentException("no such family");
        }
        if (family == RING && graph.size() < LEAST_RING) {
            throw new IllegalStateException("a ring has 3 rooms or more");
        }
        graph.beginFamily(family);
        beginDeeds();
        return graph.countDoors();
    }

    public boolean door(int room, int other, boolean is)
            throws IndexOutOfBoundsException, IllegalArgumentException, IllegalStateException {
        needRoom(room);
        needRoom(other);
        if (room == other) {
            throw new IllegalArgumentException("a door is between two unlike rooms");
        }
        boolean was = graph.hasDoor(room, other);
        if (was != is) {
            needPlaceForDeed();
            deeds.add(room, other, rabbitSet);
            graph.turnDoor(room, other);
            rabbitSet = graph.all();
        }
        return was;
    }

    public int shoot(int room) throws IndexOutOfBoundsException, IllegalStateException {
        needRoom(room);
        if (rabbitSet == 0) {
            throw new IllegalStateException("the rabbit is hit for sure");
        }
        needPlaceForDeed();
        deeds.add(room, NONE, rabbitSet);
        rabbitSet = graph.afterShot(rabbitSet, room);
        return rabbitSet;
    }

    public int back() throws IllegalStateException {
        if (deeds.count() == 0) {
            throw new IllegalStateException("there is no deed");
        }
        int other = deeds.latestOther();
        if (other != NONE) {
            graph.turnDoor(deeds.latestRoom(), other);
        }
        rabbitSet = deeds.latestSet();
        deeds.dropLatest();
        return deeds.count();
    }

    // ---- questions

    public int doors() {
        return graph.countDoors();
    }

    public int next(int room) throws IndexOutOfBoundsException {
        needRoom(room);
        return graph.nextTo(room);
    }

    public int time(int one, int two, int robber) throws IndexOutOfBoundsException {
        needBeginning(one, two, robber);
        chase.prepare(graph);
        return chase.copsFirst(one, placeOf(two), robber);
    }

    public int timeAnew(int one, int two, int robber, int most)
            throws IndexOutOfBoundsException, IllegalArgumentException {
        needBeginning(one, two, robber);
        if (most < 0 || most > MOST_MOVES_PLAYED) {
            throw new IllegalArgumentException("0 to 3 moves are played out");
        }
        return Playing.fewestMoves(graph, one, placeOf(two), robber, most);
    }

    public int step(int one, int two, int robber) throws IndexOutOfBoundsException {
        needBeginning(one, two, robber);
        chase.prepare(graph);
        return chase.bestCopMove(graph, one, placeOf(two), robber);
    }

    public int away(int one, int two, int robber) throws IndexOutOfBoundsException {
        needBeginning(one, two, robber);
        chase.prepare(graph);
        return chase.bestFlight(graph, one, placeOf(two), robber);
    }

    public boolean catches(int cops) throws IllegalArgumentException {
        if (cops < 1 || cops > 2) {
            throw new IllegalArgumentException("there are 1 or 2 cops");
        }
        chase.prepare(graph);
        return cops == 1 ? chase.oneCatches(graph) : chase.twoCatch(graph);
    }

    public boolean fallsApart() {
        return graph.losesAllCorners();
    }

    public int rabbit() {
        return rabbitSet;
    }

    public int hunt() {
        burrow.prepare(graph);
        return burrow.fewestShots(rabbitSet);
    }

    public int huntAnew(int most) throws IllegalArgumentException {
        if (most < 0 || most > MOST_SHOTS_PLAYED) {
            throw new IllegalArgumentException("0 to 4 shots are played out");
        }
        return Playing.fewestShots(graph, rabbitSet, most);
    }

    public int aim() {
        burrow.prepare(graph);
        return burrow.bestShot(graph, rabbitSet);
    }

    public int forced(int blue) throws IllegalArgumentException {
        needSet(blue);
        return Colours.spread(graph, blue);
    }

    public int rounds(int blue) throws IllegalArgumentException {
        needSet(blue);
        return Colours.countRounds(graph, blue);
    }

    public int leastBlue() {
        colours.prepare(graph);
        return colours.least();
    }

    // ---- what the calls above share

    private void beginDeeds() {
        deeds.forget();
        rabbitSet = graph.all();
    }

    private void needRoom(int room) {
        if (!graph.has(room)) {
            throw new IndexOutOfBoundsException("there is no such room");
        }
    }

    private void needBeginning(int one, int two, int robber) {
        needRoom(one);
        if (two != NONE) {
            needRoom(two);
        }
        needRoom(robber);
    }

    private void needSet(int set) {
        if (set < 0 || set > graph.all()) {
            throw new IllegalArgumentException("the set has others than rooms");
        }
    }

    private void needPlaceForDeed() {
        if (deeds.count() >= MOST_DEEDS) {
            throw new IllegalStateException("there are 200 deeds");
        }
    }

    private static int placeOf(int two) {
        return two == NONE ? NOWHERE : two;
    }

    /** Numbers in a row. Every index is looked at here, so that no other code has to. */
    private static final class Row {
        private final int[] cells;

        Row(int length) {
            cells = new int[length < 0 ? 0 : length];
        }

        int at(int index) {
            return index >= 0 && index < cells.length ? cells[index] : 0;
        }

        void put(int index, int number) {
            if (index >= 0 && index < cells.length) {
                cells[index] = number;
            }
        }

        void putAll(int number) {
            for (int index = 0; index < cells.length; index++) {
                cells[index] = number;
            }
        }
    }

    /** The rooms, and the doors between them. */
    private static final class Graph {
        private final Row nextSets;
        private int size;
        private int version;

        Graph() {
            nextSets = new Row(MOST_ROOMS);
            size = 1;
            version = 0;
        }

        void begin(int many) {
            size = Math.max(1, Math.min(many, MOST_ROOMS));
            nextSets.putAll(0);
            version++;
        }

        void beginFamily(int family) {
            begin(size);
            for (int low = 0; low < size; low++) {
                for (int high = low + 1; high < size; high++) {
                    if (familyHasDoor(family, low, high)) {
                        turnDoor(low, high);
                    }
                }
            }
        }

        private boolean familyHasDoor(int family, int low, int high) {
            switch (family) {
                case PATH:
                    return high == low + 1;
                case RING:
                    return high == low + 1 || low == 0 && high == size - 1;
                case STAR:
                    return low == 0;
                default:
                    return true;
            }
        }

        int size() {
            return size;
        }

        /** Another number after each change: tells those who keep tables when theirs are old. */
        int version() {
            return version;
        }

        boolean has(int room) {
            return room >= 0 && room < size;
        }

        int all() {
            return (1 << size) - 1;
        }

        int nextTo(int room) {
            return nextSets.at(room);
        }

        boolean hasDoor(int room, int other) {
            return (nextTo(room) & 1 << other) != 0;
        }

        void turnDoor(int room, int other) {
            nextSets.put(room, nextTo(room) ^ 1 << other);
            nextSets.put(other, nextTo(other) ^ 1 << room);
            version++;
        }

        int countDoors() {
            int ends = 0;
            for (int room = 0; room < size; room++) {
                ends += Integer.bitCount(nextTo(room));
            }
            return ends / 2;
        }

        boolean isPlace(int place) {
            return has(place) || place == NOWHERE;
        }

        int nearTo(int place) {
            return nextSets.at(place) | 1 << place;
        }

        boolean areNear(int place, int other) {
            return place == other || (nextSets.at(place) & 1 << other) != 0;
        }

        int nextToSome(int set) {
            int reached = 0;
            for (int room = 0; room < size; room++) {
                if ((set & 1 << room) != 0) {
                    reached |= nextTo(room);
                }
            }
            return reached;
        }

        int afterShot(int set, int room) {
            return nextToSome(set & ~(1 << room));
        }

        boolean losesAllCorners() {
            int left = all();
            for (int taken = 1; taken < size; taken++) {
                int corner = lowestCorner(left);
                if (corner == NONE) {
                    return false;
                }
                left &= ~(1 << corner);
            }
            return true;
        }

        private int lowestCorner(int left) {
            for (int room = 0; room < size; room++) {
                if ((left & 1 << room) != 0 && isCorner(room, left)) {
                    return room;
                }
            }
            return NONE;
        }

        private boolean isCorner(int room, int left) {
            int around = nearTo(room) & left;
            for (int other = 0; other < size; other++) {
                boolean isAnother = other != room && (left & 1 << other) != 0;
                if (isAnother && (around & ~nearTo(other)) == 0) {
                    return true;
                }
            }
            return false;
        }
    }

    /** What can be taken back: the doors that were turned and the shots, each with the set ahead of it. */
    private static final class Deeds {
        private final Row rooms;
        private final Row others;
        private final Row sets;
        private int count;

        Deeds() {
            rooms = new Row(MOST_DEEDS);
            others = new Row(MOST_DEEDS);
            sets = new Row(MOST_DEEDS);
            count = 0;
        }

        int count() {
            return count;
        }

        void forget() {
            count = 0;
        }

        /** Keeps a deed; a shot has no other room: NONE. */
        void add(int room, int other, int setAhead) {
            if (count < MOST_DEEDS) {
                rooms.put(count, room);
                others.put(count, other);
                sets.put(count, setAhead);
                count++;
            }
        }

        int latestRoom() {
            return rooms.at(count - 1);
        }

        int latestOther() {
            return others.at(count - 1);
        }

        int latestSet() {
            return sets.at(count - 1);
        }

        void dropLatest() {
            if (count > 0) {
                count--;
            }
        }
    }

    /** The table of times. It is filled by moves: who is caught with one move, with two, and so on. */
    private static final class Chase {
        private final Row times;
        // Each row below has, for a pair of cops, a set of the robber's rooms.
        private final Row caughtCopsFirst;
        private final Row caughtRobberFirst;
        private final Row caughtOneMoved;
        private int filledFor;

        Chase() {
            times = new Row(MOST_ROOMS * PLACES * MOST_ROOMS);
            caughtCopsFirst = new Row(MOST_ROOMS * PLACES);
            caughtRobberFirst = new Row(MOST_ROOMS * PLACES);
            caughtOneMoved = new Row(MOST_ROOMS * PLACES);
            filledFor = NONE;
        }

        void prepare(Graph graph) {
            if (filledFor == graph.version()) {
                return;
            }
            beginTable(graph);
            boolean grows = true;
            for (int moves = 1; grows && moves <= MOST_ROOMS * PLACES * MOST_ROOMS; moves++) {
                letRobberMove(graph);
                letFirstCopMove(graph);
                grows = letSecondCopMove(graph, moves);
            }
            filledFor = graph.version();
        }

        private static int pair(int one, int two) {
            return one * PLACES + two;
        }

        private static int cell(int one, int two, int robber) {
            return pair(one, two) * MOST_ROOMS + robber;
        }

        private void beginTable(Graph graph) {
            times.putAll(NONE);
            caughtCopsFirst.putAll(0);
            for (int one = 0; one < graph.size(); one++) {
                for (int two = 0; two < PLACES; two++) {
                    if (graph.isPlace(two)) {
                        addCaught(graph, one, two, 1 << one | 1 << two, 0);
                    }
                }
            }
        }

        private boolean addCaught(Graph graph, int one, int two, int caught, int moves) {
            int known = caughtCopsFirst.at(pair(one, two));
            int fresh = caught & ~known & graph.all();
            for (int robber = 0; robber < graph.size(); robber++) {
                if ((fresh & 1 << robber) != 0) {
                    times.put(cell(one, two, robber), moves);
                }
            }
            caughtCopsFirst.put(pair(one, two), known | fresh);
            return fresh != 0;
        }

        private void letRobberMove(Graph graph) {
            for (int one = 0; one < graph.size(); one++) {
                for (int two = 0; two < PLACES; two++) {
                    if (graph.isPlace(two)) {
                        int caught = 1 << one | 1 << two | withoutEscape(graph, caughtCopsFirst.at(pair(one, two)));
                        caughtRobberFirst.put(pair(one, two), caught);
                    }
                }
            }
        }

        private static int withoutEscape(Graph graph, int caught) {
            int lost = 0;
            for (int robber = 0; robber < graph.size(); robber++) {
                if ((graph.nearTo(robber) & ~caught) == 0) {
                    lost |= 1 << robber;
                }
            }
            return lost;
        }

        // The cops' moves are joined one cop at a time: that is far less work than all pairs of moves.
        private void letFirstCopMove(Graph graph) {
            for (int one = 0; one < graph.size(); one++) {
                for (int two = 0; two < PLACES; two++) {
                    if (graph.isPlace(two)) {
                        int caught = 0;
                        for (int to = 0; to < graph.size(); to++) {
                            if (graph.areNear(one, to)) {
                                caught |= caughtRobberFirst.at(pair(to, two));
                            }
                        }
                        caughtOneMoved.put(pair(one, two), caught);
                    }
                }
            }
        }

        private boolean letSecondCopMove(Graph graph, int moves) {
            boolean grows = false;
            for (int one = 0; one < graph.size(); one++) {
                for (int two = 0; two < PLACES; two++) {
                    if (graph.isPlace(two)) {
                        int caught = 0;
                        for (int to = 0; to < PLACES; to++) {
                            if (graph.areNear(two, to)) {
                                caught |= caughtOneMoved.at(pair(one, to));
                            }
                        }
                        grows |= addCaught(graph, one, two, caught, moves);
                    }
                }
            }
            return grows;
        }

        int copsFirst(int one, int two, int robber) {
            return times.at(cell(one, two, robber));
        }

        private int robberFirst(Graph graph, int one, int two, int robber) {
            if (robber == one || robber == two) {
                return 0;
            }
            int longest = 0;
            for (int to = 0; to < graph.size(); to++) {
                if (graph.areNear(robber, to)) {
                    int moves = copsFirst(one, two, to);
                    if (moves == NONE) {
                        return NONE;
                    }
                    longest = Math.max(longest, moves);
                }
            }
            return longest;
        }

        int bestCopMove(Graph graph, int one, int two, int robber) {
            int best = NONE;
            int least = copsFirst(one, two, robber);
            if (least <= 0) {
                return NONE;
            }
            for (int toOne = 0; toOne < graph.size(); toOne++) {
                for (int toTwo = 0; toTwo < PLACES; toTwo++) {
                    if (graph.areNear(one, toOne) && graph.areNear(two, toTwo)) {
                        int moves = robberFirst(graph, toOne, toTwo, robber);
                        int number = moveNumber(toOne, toTwo);
                        if (moves != NONE && (moves < least || moves == least && number < best)) {
                            least = moves;
                            best = number;
                        }
                    }
                }
            }
            return best;
        }

        private static int moveNumber(int toOne, int toTwo) {
            return toTwo == NOWHERE ? toOne : 10 * Math.min(toOne, toTwo) + Math.max(toOne, toTwo);
        }

        int bestFlight(Graph graph, int one, int two, int robber) {
            int best = NONE;
            int longest = NONE;
            if (robber == one || robber == two) {
                return NONE;
            }
            for (int to = 0; to < graph.size(); to++) {
                if (graph.areNear(robber, to)) {
                    int moves = copsFirst(one, two, to);
                    int counted = moves == NONE ? FOR_EVER : moves;
                    if (counted > longest) {
                        longest = counted;
                        best = to;
                    }
                }
            }
            return best;
        }

        boolean oneCatches(Graph graph) {
            return catchesFrom(graph, NOWHERE);
        }

        boolean twoCatch(Graph graph) {
            for (int two = 0; two < graph.size(); two++) {
                if (catchesFrom(graph, two)) {
                    return true;
                }
            }
            return false;
        }

        private boolean catchesFrom(Graph graph, int two) {
            for (int one = 0; one < graph.size(); one++) {
                if (caughtCopsFirst.at(pair(one, two)) == graph.all()) {
                    return true;
                }
            }
            return false;
        }
    }

    /** The table of hunts, for each set that the rabbit may be in. */
    private static final class Burrow {
        private final Row moved;
        private final Row shots;
        private int filledFor;

        Burrow() {
            moved = new Row(SETS);
            shots = new Row(SETS);
            filledFor = NONE;
        }

        void prepare(Graph graph) {
            if (filledFor == graph.version()) {
                return;
            }
            for (int set = 0; set <= graph.all(); set++) {
                moved.put(set, graph.nextToSome(set));
            }
            shots.putAll(NONE);
            shots.put(0, 0);
            boolean grows = true;
            for (int many = 1; grows && many <= SETS; many++) {
                grows = findSets(graph, many);
            }
            filledFor = graph.version();
        }

        // What a shot leaves is gone through, not the shots: each set is looked at once for each number.
        private boolean findSets(Graph graph, int many) {
            boolean grows = false;
            for (int rest = 0; rest <= graph.all(); rest++) {
                if (shots.at(moved.at(rest)) == many - 1) {
                    grows |= addSets(graph, rest, many);
                }
            }
            return grows;
        }

        // A shot outside of the set never leaves less than one inside, so that only these are counted.
        private boolean addSets(Graph graph, int rest, int many) {
            boolean grows = false;
            for (int room = 0; room < graph.size(); room++) {
                int set = rest | 1 << room;
                if (shots.at(set) == NONE) {
                    shots.put(set, many);
                    grows = true;
                }
            }
            return grows;
        }

        int fewestShots(int set) {
            return shots.at(set);
        }

        int bestShot(Graph graph, int set) {
            int many = fewestShots(set);
            if (many <= 0) {
                return NONE;
            }
            for (int room = 0; room < graph.size(); room++) {
                if (fewestShots(moved.at(set & ~(1 << room))) == many - 1) {
                    return room;
                }
            }
            return NONE;
        }
    }

    /** Times and hunts once more, by trying all that can be played; no table is looked at. */
    private static final class Playing {
        private Playing() {
        }

        static int fewestMoves(Graph graph, int one, int two, int robber, int most) {
            for (int moves = 0; moves <= most && moves <= MOST_MOVES_PLAYED; moves++) {
                if (copsCatch(graph, one, two, robber, moves)) {
                    return moves;
                }
            }
            return NONE;
        }

        private static boolean copsCatch(Graph graph, int one, int two, int robber, int moves) {
            if (robber == one || robber == two) {
                return true;
            }
            if (moves <= 0 || moves > MOST_MOVES_PLAYED) {
                return false;
            }
            if (graph.areNear(one, robber) || graph.areNear(two, robber)) {
                return true;
            }
            // A robber whom no cop reaches now may stay: one move can't be enough.
            return moves > 1 && someMoveCatches(graph, one, two, robber, moves);
        }

        private static boolean someMoveCatches(Graph graph, int one, int two, int robber, int moves) {
            for (int toOne = 0; toOne < graph.size(); toOne++) {
                for (int toTwo = 0; toTwo < PLACES; toTwo++) {
                    boolean isMove = graph.areNear(one, toOne) && graph.areNear(two, toTwo);
                    if (isMove && robberIsLost(graph, toOne, toTwo, robber, moves - 1)) {
                        return true;
                    }
                }
            }
            return false;
        }

        private static boolean robberIsLost(Graph graph, int one, int two, int robber, int moves) {
            if (robber == one || robber == two) {
                return true;
            }
            for (int to = 0; to < graph.size(); to++) {
                if (graph.areNear(robber, to) && !copsCatch(graph, one, two, to, moves)) {
                    return false;
                }
            }
            return true;
        }

        static int fewestShots(Graph graph, int set, int most) {
            for (int shots = 0; shots <= most && shots <= MOST_SHOTS_PLAYED; shots++) {
                if (shotsHit(graph, set, shots)) {
                    return shots;
                }
            }
            return NONE;
        }

        private static boolean shotsHit(Graph graph, int set, int shots) {
            if (set == 0) {
                return true;
            }
            if (shots <= 0 || shots > MOST_SHOTS_PLAYED) {
                return false;
            }
            for (int room = 0; room < graph.size(); room++) {
                // A shot outside of the set is never better than one inside.
                boolean isInside = (set & 1 << room) != 0;
                if (isInside && shotsHit(graph, graph.afterShot(set, room), shots - 1)) {
                    return true;
                }
            }
            return false;
        }
    }

    /** Blue rooms that force white ones, and the least set that forces all. */
    private static final class Colours {
        private int least;
        private int filledFor;

        Colours() {
            least = 0;
            filledFor = NONE;
        }

        void prepare(Graph graph) {
            if (filledFor == graph.version()) {
                return;
            }
            least = graph.all();
            for (int blue = 0; blue <= graph.all(); blue++) {
                boolean isFewer = Integer.bitCount(blue) < Integer.bitCount(least);
                if (isFewer && spread(graph, blue) == graph.all()) {
                    least = blue;
                }
            }
            filledFor = graph.version();
        }

        int least() {
            return least;
        }

        static int spread(Graph graph, int blue) {
            int now = blue;
            for (int round = 0; round < MOST_ROOMS; round++) {
                int then = afterRound(graph, now);
                if (then == now) {
                    return now;
                }
                now = then;
            }
            return now;
        }

        static int countRounds(Graph graph, int blue) {
            int now = blue;
            for (int round = 0; round < MOST_ROOMS; round++) {
                int then = afterRound(graph, now);
                if (then == now) {
                    return round;
                }
                now = then;
            }
            return MOST_ROOMS;
        }

        private static int afterRound(Graph graph, int blue) {
            int made = 0;
            for (int room = 0; room < graph.size(); room++) {
                int white = graph.nextTo(room) & ~blue;
                if ((blue & 1 << room) != 0 && Integer.bitCount(white) == 1) {
                    made |= white;
                }
            }
            return blue | made;
        }
    }
}
