import java.util.Random;

/**
 * Every answer of the program beside the one of {@link Plain}: all graphs of up to 4 rooms, drawn ones of 5 to 9,
 * and long drawn runs of calls with wrong arguments among them. The draws are the same in each run of the test.
 */
public final class PlainTest {
    private static final int CALLS = 512;

    private PlainTest() {
    }

    public static void main(String[] args) {
        allSmallGraphs();
        drawnGraphs();
        for (int seed = 0; seed < 150; seed++) {
            drawnRun(seed, 16);
        }
        for (int seed = 150; seed < 200; seed++) {
            drawnRun(seed, 400);
        }
        Check.end("PlainTest");
    }

    private static void allSmallGraphs() {
        for (int many = 1; many <= 4; many++) {
            int pairs = many * (many - 1) / 2;
            for (int doors = 0; doors < 1 << pairs; doors++) {
                graph(many, doors);
            }
        }
    }

    private static void drawnGraphs() {
        Random random = new Random(7);
        for (int many = 5; many <= 9; many++) {
            for (int times = 0; times < 40; times++) {
                int pairs = many * (many - 1) / 2;
                long doors = random.nextLong() & (1L << pairs) - 1;
                // Few doors make the long hunts and the long times.
                graph(many, times % 2 == 0 ? doors : doors & random.nextLong());
            }
        }
    }

    private static void graph(int many, long doors) {
        Coppinghouse x = new Coppinghouse();
        Plain plain = new Plain();
        String name = many + " rooms, doors " + doors + ": ";
        Check.due(name + "rooms", x.rooms(many), plain.rooms(many));
        long left = doors;
        for (int low = 0; low < many; low++) {
            for (int high = low + 1; high < many; high++) {
                if (left % 2 == 1) {
                    Check.due(name + "door", x.door(high, low, true), plain.door(high, low, true));
                }
                left /= 2;
            }
        }
        for (int one = 0; one < many; one++) {
            Check.due(name + "next " + one, x.next(one), plain.next(one));
            for (int two = -1; two < many; two++) {
                for (int robber = 0; robber < many; robber++) {
                    beginning(name, x, plain, one, two, robber);
                }
            }
        }
        Check.due(name + "doors", x.doors(), plain.doors());
        Check.due(name + "catches 1", x.catches(1), plain.catches(1));
        Check.due(name + "catches 2", x.catches(2), plain.catches(2));
        Check.due(name + "fallsApart", x.fallsApart(), plain.fallsApart());
        Check.due(name + "leastBlue", x.leastBlue(), plain.leastBlue());
        for (int blue = 0; blue < 1 << many; blue++) {
            Check.due(name + "forced " + blue, x.forced(blue), plain.forced(blue));
            Check.due(name + "rounds " + blue, x.rounds(blue), plain.rounds(blue));
        }
        hunt(name, x, plain, many);
    }

    private static void beginning(String name, Coppinghouse x, Plain plain, int one, int two, int robber) {
        String call = name + one + " " + two + " " + robber + " ";
        Check.due(call + "time", x.time(one, two, robber), plain.time(one, two, robber));
        Check.due(call + "step", x.step(one, two, robber), plain.step(one, two, robber));
        Check.due(call + "away", x.away(one, two, robber), plain.away(one, two, robber));
        for (int most = 0; most <= 3; most++) {
            Check.due(call + "timeAnew " + most,
                    x.timeAnew(one, two, robber, most), plain.timeAnew(one, two, robber, most));
        }
    }

    private static void hunt(String name, Coppinghouse x, Plain plain, int many) {
        for (int shots = 0; shots <= 20; shots++) {
            Check.due(name + "rabbit", x.rabbit(), plain.rabbit());
            Check.due(name + "hunt", x.hunt(), plain.hunt());
            for (int most = 0; most <= 4; most++) {
                Check.due(name + "huntAnew " + most, x.huntAnew(most), plain.huntAnew(most));
            }
            int aim = plain.aim();
            Check.due(name + "aim", x.aim(), aim);
            int room = aim == -1 || shots == 3 ? shots % many : aim;
            Check.due(name + "shoot", Check.told(() -> x.shoot(room)), Check.told(() -> plain.shoot(room)));
        }
    }

    /** A run that goes on with the same graph for some {@code patience} calls. */
    private static void drawnRun(int seed, int patience) {
        Random random = new Random(seed);
        Coppinghouse x = new Coppinghouse();
        Plain plain = new Plain();
        for (int call = 0; call < CALLS; call++) {
            String name = "run " + seed + ", call " + call + ": ";
            int kind = random.nextInt(patience) == 0 ? random.nextInt(2) : 2 + random.nextInt(20);
            if (call == 0) {
                kind = 0;
            }
            drawnCall(name, kind, random, x, plain);
            Check.due(name + "rabbit", x.rabbit(), plain.rabbit());
            Check.due(name + "doors", x.doors(), plain.doors());
        }
    }

    private static void same(String name, Check.Call got, Check.Call due) {
        Check.due(name, Check.told(got), Check.told(due));
    }

    private static int near(Random random, int low, int high) {
        return random.nextInt(40) == 0 ? random.nextInt() : low - 1 + random.nextInt(high - low + 3);
    }

    private static void drawnCall(String name, int kind, Random random, Coppinghouse x, Plain plain) {
        int a = near(random, 0, 8);
        int b = near(random, 0, 8);
        int c = near(random, 0, 8);
        int most = near(random, 0, 4);
        boolean is = random.nextBoolean();
        int blue = near(random, 0, 1 << random.nextInt(10));
        int many = random.nextInt(5) == 0 ? near(random, 1, 9) : 4 + random.nextInt(6);
        int family = near(random, 0, 3);
        switch (kind) {
            case 0 -> same(name + "rooms " + many, () -> x.rooms(many), () -> plain.rooms(many));
            case 1 -> same(name + "family " + family, () -> x.family(family), () -> plain.family(family));
            case 2, 3, 4, 5, 6 -> same(name + "door " + a + " " + b + " " + is,
                    () -> x.door(a, b, is), () -> plain.door(a, b, is));
            case 7, 8, 9 -> same(name + "shoot " + a, () -> x.shoot(a), () -> plain.shoot(a));
            case 10 -> same(name + "back", x::back, plain::back);
            case 11 -> same(name + "next " + a, () -> x.next(a), () -> plain.next(a));
            case 12 -> same(name + "time " + a + " " + b + " " + c, () -> x.time(a, b, c), () -> plain.time(a, b, c));
            case 13 -> same(name + "timeAnew " + a + " " + b + " " + c + " " + most,
                    () -> x.timeAnew(a, b, c, most), () -> plain.timeAnew(a, b, c, most));
            case 14 -> same(name + "step " + a + " " + b + " " + c, () -> x.step(a, b, c), () -> plain.step(a, b, c));
            case 15 -> same(name + "away " + a + " " + b + " " + c, () -> x.away(a, b, c), () -> plain.away(a, b, c));
            case 16 -> same(name + "catches " + most, () -> x.catches(most), () -> plain.catches(most));
            case 17 -> same(name + "fallsApart", x::fallsApart, plain::fallsApart);
            case 18 -> same(name + "hunt", x::hunt, plain::hunt);
            case 19 -> same(name + "huntAnew " + most, () -> x.huntAnew(most), () -> plain.huntAnew(most));
            case 20 -> same(name + "aim", x::aim, plain::aim);
            default -> {
                same(name + "forced " + blue, () -> x.forced(blue), () -> plain.forced(blue));
                same(name + "rounds " + blue, () -> x.rounds(blue), () -> plain.rounds(blue));
                same(name + "leastBlue", x::leastBlue, plain::leastBlue);
            }
        }
    }
}
