/** Promises 9 to 14: times, steps, who catches, and graphs that fall apart. */
public final class ChaseTest {
    private static final int FAR = Integer.MAX_VALUE;
    private static final int ALONE = Coppinghouse.NONE;

    private ChaseTest() {
    }

    public static void main(String[] args) {
        promise9Time();
        promise9TimeFollowsTheDoors();
        promise10TimeAnew();
        promise11Step();
        promise11StepOfTwo();
        promise12Away();
        promise13Catches();
        promise14FallsApart();
        wrongBeginnings();
        Check.end("ChaseTest");
    }

    private static void promise9Time() {
        Coppinghouse path = Make.family(9, Coppinghouse.PATH);
        for (int robber = 0; robber <= 8; robber++) {
            // The robber runs to the far end, and the cop walks the whole path.
            Check.due("9 path " + robber, path.time(0, ALONE, robber), robber == 0 ? 0 : robber == 1 ? 1 : 8);
        }
        Check.due("9 the middle", path.time(4, ALONE, 6), 4);
        Check.due("9 from both ends", path.time(0, 8, 4), 4);
        Check.due("9 the other way", path.time(8, 0, 4), 4);
        Check.due("9 both at the same", path.time(0, 0, 4), 8);
        Check.due("9 caught by the second", path.time(0, 4, 4), 0);
        Check.due("9 next to the second", path.time(0, 5, 4), 1);

        Coppinghouse ring = Make.family(4, Coppinghouse.RING);
        Check.due("9 ring for ever", ring.time(0, ALONE, 2), -1);
        Check.due("9 ring, next", ring.time(0, ALONE, 1), 1);
        Check.due("9 ring, two", ring.time(0, 0, 2), 2);
        Check.due("9 all", Make.family(9, Coppinghouse.ALL).time(8, ALONE, 0), 1);
        Check.due("9 star", Make.family(9, Coppinghouse.STAR).time(8, ALONE, 1), 2);

        Coppinghouse apart = Make.doors(4, 0, 1, 2, 3);
        Check.due("9 not to be reached", apart.time(0, 1, 2), -1);
        Check.due("9 reached by one", apart.time(0, 3, 2), 1);
    }

    private static void promise9TimeFollowsTheDoors() {
        Coppinghouse x = Make.family(5, Coppinghouse.PATH);
        Check.due("9 path", x.time(0, ALONE, 4), 4);
        x.door(0, 4, true);
        Check.due("9 a door more", x.time(0, ALONE, 2), -1);
        x.back();
        Check.due("9 taken back", x.time(0, ALONE, 2), 4);
        x.shoot(0);
        Check.due("9 a shot is nothing to them", x.time(0, ALONE, 2), 4);
        x.family(Coppinghouse.STAR);
        Check.due("9 another family", x.time(1, ALONE, 2), 2);
        x.rooms(5);
        Check.due("9 no doors", x.time(1, ALONE, 2), -1);
    }

    private static void promise10TimeAnew() {
        Coppinghouse x = Make.family(5, Coppinghouse.PATH);
        int[] due = {-1, -1, -1, 3};
        for (int most = 0; most <= 3; most++) {
            Check.due("10 most " + most, x.timeAnew(3, ALONE, 1, most), due[most]);
        }
        Check.due("10 time 4", x.timeAnew(0, ALONE, 4, 3), -1);
        Check.due("10 two cops", x.timeAnew(0, 4, 2, 3), 2);
        Check.due("10 two cops, most 2", x.timeAnew(4, 0, 2, 2), 2);
        Check.due("10 two cops, most 1", x.timeAnew(4, 0, 2, 1), -1);
        Check.due("10 next", x.timeAnew(0, ALONE, 1, 1), 1);
        Check.due("10 next, most 0", x.timeAnew(0, ALONE, 1, 0), -1);
        Check.due("10 next to the second", x.timeAnew(0, 3, 4, 1), 1);
        Check.due("10 caught", x.timeAnew(2, ALONE, 2, 0), 0);
        Check.due("10 caught by the second", x.timeAnew(0, 2, 2, 3), 0);
        Check.due("10 for ever", Make.family(5, Coppinghouse.RING).timeAnew(0, ALONE, 2, 3), -1);
        Check.argument("10 most -1", () -> x.timeAnew(0, ALONE, 0, -1));
        Check.argument("10 most 4", () -> x.timeAnew(0, 1, 2, 4));
        Check.argument("10 most far", () -> x.timeAnew(0, 1, 2, FAR));
        Check.index("10 no room ahead of most", () -> x.timeAnew(5, ALONE, 0, 4));
        Check.index("10 no second room ahead of most", () -> x.timeAnew(0, 5, 0, 4));
        Check.index("10 no robber's room ahead of most", () -> x.timeAnew(0, 1, -1, -1));
    }

    private static void promise11Step() {
        Coppinghouse path = Make.family(5, Coppinghouse.PATH);
        Check.due("11 up", path.step(0, ALONE, 4), 1);
        Check.due("11 down", path.step(4, ALONE, 0), 3);
        Check.due("11 to the robber", path.step(2, ALONE, 1), 1);
        Check.due("11 caught", path.step(2, ALONE, 2), -1);
        Check.due("11 for ever", Make.family(4, Coppinghouse.RING).step(0, ALONE, 2), -1);
        Check.due("11 next on the ring", Make.family(4, Coppinghouse.RING).step(0, ALONE, 3), 3);
        // 1 and 2 both look at all rooms: the lower one is the best.
        Coppinghouse kite = Make.doors(4, 0, 1, 0, 2, 1, 2, 1, 3, 2, 3);
        Check.due("11 the lowest", kite.step(0, ALONE, 3), 1);
        Check.due("11 staying is never better", Make.family(3, Coppinghouse.STAR).step(0, ALONE, 2), 2);
        Coppinghouse mixed = Make.doors(5, 0, 4, 1, 3, 0, 1);
        Check.due("11 along 4 0 1 3", mixed.step(4, ALONE, 3), 0);
    }

    private static void promise11StepOfTwo() {
        Coppinghouse path = Make.family(9, Coppinghouse.PATH);
        // Both ends are 7 rooms apart: one cop may stay in the first step, and the lower one's room is told first.
        Check.due("11 from both ends", path.step(0, 8, 4), 7);
        Check.due("11 the other way", path.step(8, 0, 4), 7);
        Check.due("11 both have to go", Make.family(8, Coppinghouse.PATH).step(0, 7, 3), 16);
        Check.due("11 both have to go, the other way", Make.family(8, Coppinghouse.PATH).step(7, 0, 3), 16);
        Check.due("11 the higher cop catches", path.step(7, 0, 6), 6);
        Check.due("11 the lower cop catches", path.step(1, 8, 2), 27);
        Check.due("11 caught by the second", path.step(0, 2, 2), -1);
        Check.due("11 to the same room", Make.family(3, Coppinghouse.PATH).step(1, 1, 0), 0);
        Check.due("11 both from 0", Make.family(4, Coppinghouse.RING).step(0, 0, 2), 1);
        Check.due("11 none", Make.doors(3, 0, 1).step(0, 1, 2), -1);
        Check.due("11 the highest rooms", Make.doors(9, 7, 8).step(7, 7, 8), 78);
    }

    private static void promise12Away() {
        Coppinghouse path = Make.family(5, Coppinghouse.PATH);
        Check.due("12 up", path.away(0, ALONE, 2), 2);
        Check.due("12 away from the cop", path.away(0, ALONE, 1), 2);
        Check.due("12 staying at the end", path.away(3, ALONE, 4), 4);
        Check.due("12 caught", path.away(2, ALONE, 2), -1);
        Check.due("12 caught by the second", path.away(0, 2, 2), -1);
        Check.due("12 between two", path.away(0, 2, 1), 1);
        Check.due("12 rooms with a cop are no flight", Make.family(3, Coppinghouse.PATH).away(0, 2, 1), 1);
        Coppinghouse ring = Make.family(5, Coppinghouse.RING);
        Check.due("12 none is greater than all", ring.away(0, ALONE, 1), 2);
        Check.due("12 the lowest of several", ring.away(0, ALONE, 3), 2);
        Check.due("12 no doors", Make.doors(3).away(0, 1, 2), 2);
        // From 3 the rooms 2, 3 and 4 have the same time.
        Check.due("12 the lowest of several times", Make.family(9, Coppinghouse.PATH).away(0, ALONE, 3), 2);
        Check.due("12 first next to the cop", path.away(4, ALONE, 3), 2);
    }

    private static void promise13Catches() {
        Check.due("13 path", Make.family(9, Coppinghouse.PATH).catches(1), true);
        Check.due("13 star", Make.family(9, Coppinghouse.STAR).catches(1), true);
        Check.due("13 all", Make.family(9, Coppinghouse.ALL).catches(1), true);
        Check.due("13 ring of 3", Make.family(3, Coppinghouse.RING).catches(1), true);
        Check.due("13 ring of 4", Make.family(4, Coppinghouse.RING).catches(1), false);
        Check.due("13 ring of 9", Make.family(9, Coppinghouse.RING).catches(1), false);
        Check.due("13 ring of 9, two", Make.family(9, Coppinghouse.RING).catches(2), true);
        Check.due("13 two parts, one", Make.doors(2).catches(1), false);
        Check.due("13 two parts, two", Make.doors(2).catches(2), true);
        Check.due("13 three parts, two", Make.doors(3).catches(2), false);
        Coppinghouse ringAndRoom = Make.doors(5, 1, 2, 2, 3, 3, 4, 4, 1);
        Check.due("13 a ring and a room, two", ringAndRoom.catches(2), false);
        Check.argument("13 cops 0", () -> ringAndRoom.catches(0));
        Check.argument("13 cops 3", () -> ringAndRoom.catches(3));
        Check.argument("13 cops -1", () -> ringAndRoom.catches(-1));
        Check.argument("13 cops far", () -> ringAndRoom.catches(FAR));
    }

    private static void promise14FallsApart() {
        Check.due("14 path", Make.family(9, Coppinghouse.PATH).fallsApart(), true);
        Check.due("14 star", Make.family(9, Coppinghouse.STAR).fallsApart(), true);
        Check.due("14 all", Make.family(9, Coppinghouse.ALL).fallsApart(), true);
        Check.due("14 ring of 3", Make.family(3, Coppinghouse.RING).fallsApart(), true);
        Check.due("14 ring of 4", Make.family(4, Coppinghouse.RING).fallsApart(), false);
        Check.due("14 two parts", Make.doors(2).fallsApart(), false);
        Check.due("14 two paths", Make.doors(4, 0, 1, 2, 3).fallsApart(), false);
        Check.due("14 a ring with a tail", Make.doors(6, 0, 1, 1, 2, 2, 3, 3, 0, 3, 4, 4, 5).fallsApart(), false);
        Coppinghouse wheel = Make.family(5, Coppinghouse.STAR);
        wheel.door(1, 2, true);
        wheel.door(2, 3, true);
        wheel.door(3, 4, true);
        wheel.door(4, 1, true);
        Check.due("14 a wheel", wheel.fallsApart(), true);
        wheel.door(0, 4, false);
        Check.due("14 a wheel with a spoke less", wheel.fallsApart(), false);
        wheel.door(0, 2, false);
        Check.due("14 a ring of 4 beside another one", wheel.fallsApart(), false);
        wheel.back();
        wheel.back();
        Check.due("14 taken back", wheel.fallsApart(), true);
    }

    private interface Beginning {
        int ask(int one, int two, int robber);
    }

    private static void wrongBeginnings() {
        Coppinghouse x = Make.family(4, Coppinghouse.PATH);
        wrongBeginning("9 time", x::time);
        wrongBeginning("10 timeAnew", (one, two, robber) -> x.timeAnew(one, two, robber, 3));
        wrongBeginning("11 step", x::step);
        wrongBeginning("12 away", x::away);
    }

    private static void wrongBeginning(String name, Beginning call) {
        int[] wrong = {4, 9, FAR, Integer.MIN_VALUE, -2};
        for (int room : wrong) {
            Check.index(name + " one " + room, () -> call.ask(room, 1, 2));
            Check.index(name + " two " + room, () -> call.ask(0, room, 2));
            Check.index(name + " robber " + room, () -> call.ask(0, 1, room));
            Check.index(name + " robber alone " + room, () -> call.ask(0, ALONE, room));
        }
        Check.index(name + " one is none", () -> call.ask(ALONE, 1, 2));
        Check.index(name + " both are none", () -> call.ask(ALONE, ALONE, 2));
        Check.index(name + " the robber is none", () -> call.ask(0, ALONE, ALONE));
    }
}
