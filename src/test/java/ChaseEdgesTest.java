/** Promises 9 to 14, and the terms on the chase and on corners: a test for each sentence that names a boundary case. */
public final class ChaseEdgesTest {
    private static final int FAR = Integer.MAX_VALUE;
    private static final int LOW = Integer.MIN_VALUE;
    private static final int ALONE = Coppinghouse.NONE;
    // 32 and 36 are bits that a shift takes for the rooms 0 and 4; 9 is the first number that is never a room.
    private static final int[] NO_ROOMS_OF_4 = {4, 5, 8, 9, 10, 31, 32, 36, FAR, -2, -10, -32, LOW};

    private ChaseEdgesTest() {
    }

    public static void main(String[] args) {
        copsAndRobber();
        promise9();
        promise10();
        promise11();
        promise12();
        promise13();
        promise14();
        Check.end("ChaseEdgesTest");
    }

    private static void copsAndRobber() {
        Check.each(ChaseEdgesTest::copsInTheSameRoom);
        Check.each(ChaseEdgesTest::copsAreAlike);
        Check.each(ChaseEdgesTest::caughtAndNothingMoves);
        Check.each(ChaseEdgesTest::robberMayStay);
        Check.each(ChaseEdgesTest::copsMayStay);
    }

    private static void copsInTheSameRoom() {
        Check.sentence("Promises 9 to 12", "One COP or two, alike to all that is asked, and a ROBBER, are in ROOMS, "
                + "perhaps in the same ones.");
        Coppinghouse ring = Make.family(4, Coppinghouse.RING);
        Check.due("one cop alone", ring.time(0, ALONE, 2), -1);
        Check.due("two in the same room are not one", ring.time(0, 0, 2), 2);
        Check.due("two in the same room, played out", ring.timeAnew(0, 0, 2, 2), 2);
        Check.due("two in the same room, step", ring.step(0, 0, 2), 1);
        Check.due("two in the same room, away", ring.away(0, 0, 1), 2);
        Check.due("two in the last room", Make.family(9, Coppinghouse.PATH).time(8, 8, 0), 8);
        Check.due("all three in one room", new Coppinghouse().time(0, 0, 0), 0);
    }

    private static void copsAreAlike() {
        Check.sentence("Promises 9 to 12", "One COP or two, alike to all that is asked");
        Coppinghouse x = Make.doors(7, 0, 1, 1, 2, 2, 3, 3, 0, 3, 4, 4, 5);
        for (int one = 0; one < 7; one++) {
            for (int two = 0; two < one; two++) {
                for (int robber = 0; robber < 7; robber++) {
                    String name = one + " " + two + " " + robber;
                    Check.due("time " + name, x.time(one, two, robber), x.time(two, one, robber));
                    Check.due("timeAnew " + name, x.timeAnew(one, two, robber, 3), x.timeAnew(two, one, robber, 3));
                    Check.due("step " + name, x.step(one, two, robber), x.step(two, one, robber));
                    Check.due("away " + name, x.away(one, two, robber), x.away(two, one, robber));
                }
            }
        }
    }

    private static void caughtAndNothingMoves() {
        Check.sentence("Promises 9 to 12", "As soon as the ROBBER is in a ROOM with a COP, by whosever move, or from "
                + "the beginning on, it is CAUGHT, and nothing moves any more.");
        Coppinghouse x = Make.family(9, Coppinghouse.RING);
        for (int room = 0; room < 9; room++) {
            Check.due("time with one " + room, x.time(room, ALONE, room), 0);
            Check.due("time with the first " + room, x.time(room, 4, room), 0);
            Check.due("time with the second " + room, x.time(4, room, room), 0);
            Check.due("timeAnew " + room, x.timeAnew(room, ALONE, room, 0), 0);
            Check.due("timeAnew with the second " + room, x.timeAnew(4, room, room, 0), 0);
            Check.due("step " + room, x.step(room, ALONE, room), -1);
            Check.due("step with the second " + room, x.step(4, room, room), -1);
            Check.due("away " + room, x.away(room, ALONE, room), -1);
            Check.due("away with the second " + room, x.away(4, room, room), -1);
        }
    }

    private static void robberMayStay() {
        Check.sentence("Promises 9, 10 and 12", "in a move of the ROBBER it goes to a ROOM that is NEAR to its own");
        // A robber who had to go would run into the cop's arms, or next to them.
        Coppinghouse ring = Make.family(4, Coppinghouse.RING);
        Check.due("time", ring.time(0, ALONE, 2), -1);
        Check.due("timeAnew", ring.timeAnew(0, ALONE, 2, 3), -1);
        Check.due("away", ring.away(0, ALONE, 2), 2);
        Coppinghouse bare = Make.rooms(9);
        Check.due("away without doors", bare.away(0, 1, 8), 8);
        Check.due("away of the only room left", Make.rooms(2).away(0, ALONE, 1), 1);
    }

    private static void copsMayStay() {
        Check.sentence("Promises 9 to 11", "In a move of the COPS each of them goes to a ROOM that is NEAR to its own");
        Coppinghouse x = Make.doors(4, 0, 1, 2, 3);
        Check.due("a cop without a way to the robber", x.step(0, 3, 2), 2);
        Check.due("its time", x.time(0, 3, 2), 1);
        Coppinghouse bare = Make.doors(3, 1, 2);
        Check.due("a cop in a room without doors stays", bare.step(0, 2, 1), 1);
        Check.due("its time", bare.time(0, 2, 1), 1);
        Check.due("its time, played out", bare.timeAnew(0, 2, 1, 1), 1);
        Coppinghouse path = Make.family(9, Coppinghouse.PATH);
        Check.due("the first stays, as it has a move more than it needs", path.step(0, 8, 4), 7);
    }

    private interface Beginning {
        int ask(int one, int two, int robber);
    }

    private static void timeOfNoRoom() {
        Check.sentence("Promise 9", "Throws `IndexOutOfBoundsException` as told, of all");
        noRoomOf(Make.family(4, Coppinghouse.PATH)::time);
    }

    private static void timeAnewOfNoRoom() {
        Check.sentence("Promise 10", "Throws `IndexOutOfBoundsException` as told, of all");
        Coppinghouse x = Make.family(4, Coppinghouse.PATH);
        noRoomOf((one, two, robber) -> x.timeAnew(one, two, robber, 3));
    }

    private static void stepOfNoRoom() {
        Check.sentence("Promise 11", "Throws `IndexOutOfBoundsException` as told, of all");
        noRoomOf(Make.family(4, Coppinghouse.PATH)::step);
    }

    private static void awayOfNoRoom() {
        Check.sentence("Promise 12", "Throws `IndexOutOfBoundsException` as told, of all");
        noRoomOf(Make.family(4, Coppinghouse.PATH)::away);
    }

    private static void noRoomOf(Beginning call) {
        for (int room : NO_ROOMS_OF_4) {
            Check.index("one " + room, () -> call.ask(room, ALONE, 0));
            Check.index("one of two " + room, () -> call.ask(room, 3, 0));
            Check.index("two " + room, () -> call.ask(0, room, 3));
            Check.index("two, and caught by one " + room, () -> call.ask(0, room, 0));
            Check.index("robber " + room, () -> call.ask(0, ALONE, room));
            Check.index("robber of two " + room, () -> call.ask(3, 0, room));
            Check.index("cop and robber " + room, () -> call.ask(room, ALONE, room));
        }
        Check.index("one is NONE", () -> call.ask(ALONE, 0, 1));
        Check.index("both are NONE", () -> call.ask(ALONE, ALONE, 1));
        Check.index("robber is NONE", () -> call.ask(0, ALONE, ALONE));
        Check.index("robber of two is NONE", () -> call.ask(0, 1, ALONE));
    }

    private static void promise9() {
        Check.each(ChaseEdgesTest::timeOfNoRoom);
        Check.each(ChaseEdgesTest::zeroFromTheBeginning);
        Check.each(ChaseEdgesTest::noneForEver);
        Check.each(ChaseEdgesTest::longestTimes);
        Check.each(ChaseEdgesTest::timeOfOneCopOrTwo);
    }

    private static void zeroFromTheBeginning() {
        Check.sentence("Promise 9", "0, if it is CAUGHT from the beginning on");
        Check.due("one room", new Coppinghouse().time(0, ALONE, 0), 0);
        Coppinghouse bare = Make.rooms(9);
        Check.due("without doors", bare.time(8, ALONE, 8), 0);
        Check.due("by the second, without doors", bare.time(0, 8, 8), 0);
        Check.due("by both", bare.time(8, 8, 8), 0);
        Check.due("not yet, but next to it", Make.family(2, Coppinghouse.PATH).time(0, ALONE, 1), 1);
    }

    private static void noneForEver() {
        Check.sentence("Promise 9", "there is none, if it can escape for ever");
        Check.due("two rooms without a door", Make.rooms(2).time(0, ALONE, 1), -1);
        Check.due("two cops in the same part", Make.rooms(9).time(0, 7, 8), -1);
        Check.due("the smallest ring that one can't win", Make.family(4, Coppinghouse.RING).time(0, ALONE, 2), -1);
        Check.due("a ring of 3", Make.family(3, Coppinghouse.RING).time(0, ALONE, 2), 1);
        Check.due("the largest ring", Make.family(9, Coppinghouse.RING).time(0, ALONE, 4), -1);
        Check.due("the largest ring, two", Make.family(9, Coppinghouse.RING).time(0, 0, 4), 4);
        Check.due("the largest ring, next to it", Make.family(9, Coppinghouse.RING).time(0, ALONE, 8), 1);
        Coppinghouse rings = Make.doors(9, 0, 1, 1, 2, 2, 3, 3, 0, 4, 5, 5, 6, 6, 7, 7, 4);
        Check.due("two rings, one cop in each", rings.time(0, 4, 6), -1);
        Check.due("two rings, both in one", rings.time(4, 4, 6), 2);
    }

    private static void longestTimes() {
        Check.sentence("Promise 9", "The TIME of a beginning is the least number n, so that the COPS can move so that, "
                + "whatever the ROBBER does, it is CAUGHT with at most n moves of the COPS");
        Check.due("the longest path", Make.family(9, Coppinghouse.PATH).time(0, ALONE, 8), 8);
        Check.due("the longest path, back", Make.family(9, Coppinghouse.PATH).time(8, ALONE, 0), 8);
        // More moves than there are rooms to go to.
        Coppinghouse nine = Make.doors(9, 1, 0, 2, 0, 3, 2, 4, 2, 5, 3, 6, 5, 7, 5, 8, 7, 0, 6, 0, 3, 1, 4, 4, 5, 6, 1,
                3, 6, 1, 2, 6, 4);
        Check.due("9 moves", nine.time(8, ALONE, 0), 9);
        Check.due("9 moves are more than are played out", nine.timeAnew(8, ALONE, 0, 3), -1);
        Coppinghouse seven = Make.doors(9, 1, 0, 2, 1, 3, 2, 4, 3, 5, 4, 6, 5, 7, 5, 8, 6, 3, 7);
        Check.due("none for one", seven.time(0, ALONE, 2), -1);
        Check.due("7 moves of two", seven.time(0, 0, 2), 7);
    }

    private static void timeOfOneCopOrTwo() {
        Check.sentence("Promise 9", "`two`: the ROOM of the second COP, or NONE for one COP");
        Coppinghouse x = Make.family(4, Coppinghouse.RING);
        Check.due("one cop", x.time(0, ALONE, 2), -1);
        Check.due("the lowest room", x.time(0, 0, 2), 2);
        Check.due("the highest room", x.time(0, 3, 2), 1);
        Check.index("one below NONE", () -> x.time(0, -2, 2));
        Check.index("one above the highest", () -> x.time(0, 4, 2));
    }

    private static void promise10() {
        Check.each(ChaseEdgesTest::timeAnewOfNoRoom);
        Check.each(ChaseEdgesTest::timeAnewOfOneCopOrTwo);
        Check.each(ChaseEdgesTest::mostOutOfRange);
        Check.each(ChaseEdgesTest::timeThatIsMost);
        Check.each(ChaseEdgesTest::noneWithinMost);
        Check.each(ChaseEdgesTest::timeAnewFirstNamed);
    }

    private static void mostOutOfRange() {
        Check.sentence("Promise 10", "Throws `IllegalArgumentException` if most is out of range");
        int[] out = {-1, 4, 5, FAR, LOW};
        Coppinghouse x = Make.family(5, Coppinghouse.PATH);
        for (int most : out) {
            Check.argument("one cop, most " + most, () -> x.timeAnew(0, ALONE, 4, most));
            Check.argument("two cops, most " + most, () -> x.timeAnew(0, 1, 4, most));
            Check.argument("caught, most " + most, () -> x.timeAnew(4, ALONE, 4, most));
        }
        Check.due("the least most", x.timeAnew(4, ALONE, 4, 0), 0);
        Check.due("the greatest most", x.timeAnew(4, ALONE, 4, 3), 0);
    }

    private static void timeThatIsMost() {
        Check.sentence("Promise 10", "Returns the same, found by playing out, if it is at most so much.");
        Coppinghouse x = Make.family(9, Coppinghouse.PATH);
        for (int time = 0; time <= 4; time++) {
            int cop = 8 - time;
            for (int most = 0; most <= 3; most++) {
                int due = time <= most ? time : -1;
                String name = "time " + time + ", most " + most;
                Check.due("one cop, " + name, x.timeAnew(cop, ALONE, 8, most), due);
                Check.due("two cops, " + name, x.timeAnew(cop, cop, 8, most), due);
            }
        }
    }

    private static void noneWithinMost() {
        Check.sentence("Promise 10", "Returns the TIME; NONE if there is none, or it is greater than most.");
        Coppinghouse ring = Make.family(4, Coppinghouse.RING);
        for (int most = 0; most <= 3; most++) {
            Check.due("none, most " + most, ring.timeAnew(0, ALONE, 2, most), -1);
            Check.due("no way, most " + most, Make.rooms(3).timeAnew(0, 1, 2, most), -1);
            Check.due("greater, most " + most, Make.family(5, Coppinghouse.PATH).timeAnew(0, 0, 4, most), -1);
        }
    }

    private static void timeAnewFirstNamed() {
        Check.sentence("Promise 10", "If several apply, the one that is named first in the throws clause is thrown");
        Coppinghouse x = Make.family(4, Coppinghouse.PATH);
        for (int room : NO_ROOMS_OF_4) {
            Check.index("one " + room + ", most 4", () -> x.timeAnew(room, 0, 0, 4));
            Check.index("two " + room + ", most -1", () -> x.timeAnew(0, room, 0, -1));
            Check.index("robber " + room + ", most 4", () -> x.timeAnew(0, ALONE, room, 4));
        }
    }

    private static void timeAnewOfOneCopOrTwo() {
        Check.sentence("Promise 10", "`two`: the ROOM of the second COP, or NONE for one COP");
        Coppinghouse x = Make.family(4, Coppinghouse.RING);
        Check.due("one cop", x.timeAnew(0, ALONE, 2, 3), -1);
        Check.due("the lowest room", x.timeAnew(0, 0, 2, 3), 2);
        Check.due("the highest room", x.timeAnew(0, 3, 2, 3), 1);
        Check.index("one below NONE", () -> x.timeAnew(0, -2, 2, 3));
        Check.index("one above the highest", () -> x.timeAnew(0, 4, 2, 3));
    }

    private static void promise11() {
        Check.each(ChaseEdgesTest::stepOfNoRoom);
        Check.each(ChaseEdgesTest::stepOfOneCopOrTwo);
        Check.each(ChaseEdgesTest::noStep);
        Check.each(ChaseEdgesTest::lowestOfSeveralSteps);
        Check.each(ChaseEdgesTest::numberOfAMove);
        Check.each(ChaseEdgesTest::leastTimeBehindTheStep);
    }

    private static void noStep() {
        Check.sentence("Promise 11", "Returns its number; NONE if the ROBBER is CAUGHT, or there is no TIME.");
        Check.due("caught in the only room", new Coppinghouse().step(0, ALONE, 0), -1);
        Check.due("caught by both", new Coppinghouse().step(0, 0, 0), -1);
        Check.due("caught by the second", Make.family(9, Coppinghouse.PATH).step(0, 8, 8), -1);
        Check.due("no time for one", Make.family(9, Coppinghouse.RING).step(0, ALONE, 4), -1);
        Check.due("no time for two", Make.rooms(3).step(0, 1, 2), -1);
        Check.due("no time though they can move", Make.doors(4, 0, 1, 1, 2).step(0, 2, 3), -1);
    }

    private static void lowestOfSeveralSteps() {
        Check.sentence("Promise 11", "of several the one with the lowest number");
        Coppinghouse kite = Make.doors(4, 0, 1, 0, 2, 1, 2, 1, 3, 2, 3);
        Check.due("1 and 2 are alike", kite.step(0, ALONE, 3), 1);
        Check.due("1 and 2 are alike, from 3", kite.step(3, ALONE, 0), 1);
        Coppinghouse all = Make.family(9, Coppinghouse.ALL);
        Check.due("one goes to the robber, the other one anywhere", all.step(8, 7, 5), 5);
        Check.due("the robber is in the highest room", all.step(6, 7, 8), 8);
        Check.due("the robber is in the lowest room", all.step(6, 7, 0), 0);
        Check.due("0 and 3, 1 and 3 are alike", Make.family(4, Coppinghouse.RING).step(2, 0, 3), 3);
        Check.due("0 and 2, 1 and 4 are alike", Make.family(5, Coppinghouse.RING).step(1, 0, 3), 2);
        Check.due("1 and 2, 1 and 3, 2 and 3 are alike", Make.family(4, Coppinghouse.RING).step(2, 2, 0), 12);
    }

    private static void numberOfAMove() {
        Check.sentence("Promise 11", "The number of a move is the ROOM to which the COP goes, if there is one COP; "
                + "otherwise 10 times the lower one of both ROOMS to which they go, and the higher one, together.");
        Check.due("one cop, the lowest", Make.family(2, Coppinghouse.PATH).step(1, ALONE, 0), 0);
        Check.due("one cop, the highest", Make.family(9, Coppinghouse.PATH).step(7, ALONE, 8), 8);
        Check.due("two cops, both to 0", Make.family(2, Coppinghouse.PATH).step(1, 1, 0), 0);
        Check.due("two cops, both to 1", Make.doors(5, 1, 3, 1, 4).step(3, 4, 1), 11);
        Check.due("two cops, 1 and 6", Make.family(8, Coppinghouse.PATH).step(0, 7, 3), 16);
        Check.due("two cops, 6 and 1", Make.family(8, Coppinghouse.PATH).step(7, 0, 3), 16);
        Check.due("two cops, 7 and 8", Make.doors(9, 7, 8).step(7, 7, 8), 78);
        Coppinghouse both = Make.doors(9, 3, 7, 8, 7, 5, 8, 4, 8, 2, 4, 1, 5, 0, 4, 6, 1, 2, 3, 0, 1);
        Check.due("two cops, both to the highest", both.step(5, 5, 2), 88);
        Check.due("its time", both.time(5, 5, 2), 3);
    }

    private static void leastTimeBehindTheStep() {
        Check.sentence("Promise 11", "The best step of the COPS is the move behind which the TIME, the ROBBER moving "
                + "then, is the least");
        // Each way round the ring of 3 is a step nearer, but only one is to the robber.
        Check.due("to the robber, not the lowest", Make.family(3, Coppinghouse.RING).step(0, ALONE, 2), 2);
        Check.due("to the robber, not staying", Make.family(9, Coppinghouse.ALL).step(0, ALONE, 8), 8);
        Coppinghouse x = Make.doors(6, 0, 1, 1, 2, 2, 3, 0, 4, 4, 3, 0, 3, 3, 5);
        Check.due("the short way, not the lowest", x.step(0, ALONE, 5), 3);
    }

    private static void stepOfOneCopOrTwo() {
        Check.sentence("Promise 11", "`two`: the ROOM of the second COP, or NONE for one COP");
        Coppinghouse x = Make.family(4, Coppinghouse.RING);
        Check.due("one cop", x.step(0, ALONE, 2), -1);
        Check.due("the lowest room", x.step(0, 0, 2), 1);
        Check.due("the highest room", x.step(0, 3, 2), 2);
        Check.index("one below NONE", () -> x.step(0, -2, 2));
        Check.index("one above the highest", () -> x.step(0, 4, 2));
    }

    private static void promise12() {
        Check.each(ChaseEdgesTest::awayOfNoRoom);
        Check.each(ChaseEdgesTest::awayOfOneCopOrTwo);
        Check.each(ChaseEdgesTest::noFlight);
        Check.each(ChaseEdgesTest::noneIsGreatest);
        Check.each(ChaseEdgesTest::lowestOfSeveralFlights);
        Check.each(ChaseEdgesTest::roomsWithACop);
    }

    private static void noFlight() {
        Check.sentence("Promise 12", "Returns the ROOM; NONE if it is CAUGHT.");
        Check.due("in the only room", new Coppinghouse().away(0, ALONE, 0), -1);
        Check.due("in the only room, by both", new Coppinghouse().away(0, 0, 0), -1);
        Check.due("by the first", Make.family(9, Coppinghouse.RING).away(8, 0, 8), -1);
        Check.due("by the second", Make.family(9, Coppinghouse.RING).away(0, 8, 8), -1);
        Check.due("not yet, but without a way", Make.family(2, Coppinghouse.PATH).away(0, ALONE, 1), 1);
        Check.due("not yet, but between two", Make.family(3, Coppinghouse.PATH).away(0, 2, 1), 1);
    }

    private static void noneIsGreatest() {
        Check.sentence("Promise 12", "is the greatest, none counting as greater than all");
        Coppinghouse ring = Make.family(9, Coppinghouse.RING);
        Check.due("from next to the cop", ring.away(0, ALONE, 8), 7);
        // The lowest room, 0, has the time 1.
        Check.due("not the lowest that has a time", ring.away(1, ALONE, 0), 8);
        Coppinghouse tail = Make.doors(6, 0, 1, 1, 2, 2, 3, 3, 4, 4, 1);
        Check.due("into the ring, not to the end", tail.away(3, ALONE, 1), 1);
        Check.due("the end has a time, the ring has none", tail.away(0, ALONE, 1), 2);
        // The tail from 5 to 0 and on to 4 has the time 6.
        Coppinghouse longTail = Make.doors(9, 0, 1, 1, 2, 2, 3, 3, 4, 0, 5, 5, 6, 6, 7, 7, 8, 8, 5);
        Check.due("a long time", longTail.time(6, ALONE, 0), 6);
        Check.due("none is greater than a long time", longTail.away(6, ALONE, 5), 8);
    }

    private static void lowestOfSeveralFlights() {
        Check.sentence("Promise 12", "of several the lowest ROOM");
        Check.due("all without a time", Make.family(6, Coppinghouse.RING).away(0, ALONE, 3), 2);
        Check.due("all with the same time", Make.family(9, Coppinghouse.PATH).away(0, ALONE, 4), 3);
        Check.due("staying is the lowest", Make.family(9, Coppinghouse.PATH).away(8, ALONE, 0), 0);
        Check.due("all of all rooms: the lowest is the cop's", Make.family(9, Coppinghouse.ALL).away(0, ALONE, 8), 1);
        Check.due("all of all rooms, two cops", Make.family(9, Coppinghouse.ALL).away(1, 0, 8), 2);
    }

    private static void roomsWithACop() {
        Check.sentence("Promise 12", "ROOMS with a COP are looked at, too");
        // There the time is 0: it is never the greatest, as the robber can stay.
        Check.due("a cop below", Make.family(3, Coppinghouse.PATH).away(0, ALONE, 1), 2);
        Check.due("cops on both sides", Make.family(9, Coppinghouse.PATH).away(7, 5, 6), 6);
        Check.due("cops on both sides of the ring", Make.family(9, Coppinghouse.RING).away(1, 8, 0), 0);
        Check.due("the only door is a cop's", Make.family(9, Coppinghouse.STAR).away(0, 0, 8), 8);
    }

    private static void awayOfOneCopOrTwo() {
        Check.sentence("Promise 12", "`two`: the ROOM of the second COP, or NONE for one COP");
        Coppinghouse x = Make.family(4, Coppinghouse.RING);
        Check.due("one cop", x.away(1, ALONE, 0), 3);
        Check.due("the lowest room", x.away(1, 0, 0), -1);
        Check.due("the highest room", x.away(1, 3, 0), 0);
        Check.index("one below NONE", () -> x.away(1, -2, 0));
        Check.index("one above the highest", () -> x.away(1, 4, 0));
    }

    private static void promise13() {
        Check.each(ChaseEdgesTest::copsOutOfRange);
        Check.each(ChaseEdgesTest::roomsInWhichTheyBegin);
    }

    private static void copsOutOfRange() {
        Check.sentence("Promise 13", "Throws `IllegalArgumentException` if cops is out of range");
        int[] out = {0, 3, -1, -2, 9, FAR, LOW};
        for (int cops : out) {
            Check.argument("cops " + cops, () -> Make.family(9, Coppinghouse.PATH).catches(cops));
            Check.argument("cops " + cops + " of one room", () -> new Coppinghouse().catches(cops));
        }
        Check.due("the fewest", Make.family(9, Coppinghouse.PATH).catches(1), true);
        Check.due("the most", Make.family(9, Coppinghouse.PATH).catches(2), true);
    }

    private static void roomsInWhichTheyBegin() {
        Check.sentence("Promise 13", "So many COPS catch, if they can begin in some ROOMS so that, in whatever ROOM "
                + "the ROBBER begins then, there is a TIME.");
        Check.due("one room, one cop", new Coppinghouse().catches(1), true);
        Check.due("one room, both in it", new Coppinghouse().catches(2), true);
        Check.due("two parts, one cop", Make.rooms(2).catches(1), false);
        Check.due("two parts, a cop in each", Make.rooms(2).catches(2), true);
        Check.due("three parts, two cops", Make.rooms(3).catches(2), false);
        Check.due("nine parts, two cops", Make.rooms(9).catches(2), false);
        Check.due("only the last room is apart", Make.doors(4, 0, 1, 1, 2, 2, 0).catches(1), false);
        Check.due("only the last room is apart, two cops", Make.doors(4, 0, 1, 1, 2, 2, 0).catches(2), true);
        Check.due("a ring of 3, one cop", Make.family(3, Coppinghouse.RING).catches(1), true);
        Check.due("a ring of 4, one cop", Make.family(4, Coppinghouse.RING).catches(1), false);
        Check.due("a ring of 9, two cops", Make.family(9, Coppinghouse.RING).catches(2), true);
        Coppinghouse rings = Make.doors(9, 0, 1, 1, 2, 2, 3, 3, 0, 4, 5, 5, 6, 6, 7, 7, 8, 8, 4);
        Check.due("two rings, two cops", rings.catches(2), false);
    }

    private static void promise14() {
        Check.each(ChaseEdgesTest::cornerOfAnotherOne);
        Check.each(ChaseEdgesTest::cornersOfWhatIsLeft);
        Check.each(ChaseEdgesTest::fallsApartToASingleRoom);
    }

    private static void cornerOfAnotherOne() {
        Check.sentence("Promise 14", "Of some ROOMS that are left one is a CORNER of another one, if each ROOM that is "
                + "left and is NEAR to it is NEAR to the other one, too.");
        Check.due("no room is a corner of itself", Make.rooms(2).fallsApart(), false);
        Check.due("a room is near to itself", Make.doors(4, 0, 2, 0, 3, 1, 2, 1, 3).fallsApart(), false);
        Check.due("two that are near to the same", Make.family(2, Coppinghouse.ALL).fallsApart(), true);
        Check.due("nine that are near to the same", Make.family(9, Coppinghouse.ALL).fallsApart(), true);
        Check.due("a room without doors is no corner", Make.doors(3, 0, 1).fallsApart(), false);
    }

    private static void cornersOfWhatIsLeft() {
        Check.sentence("Promise 14", "all ROOMS being left at first, taking a CORNER away, as long as there is one");
        // 1 is a corner only when 0 is taken.
        Check.due("near to what is left alone", Make.family(5, Coppinghouse.PATH).fallsApart(), true);
        Check.due("nine, one by one", Make.family(9, Coppinghouse.PATH).fallsApart(), true);
        // 0 and 4 are near to the same; the one that is taken must not take the other one with it.
        Coppinghouse twins = Make.doors(5, 0, 1, 1, 2, 2, 3, 3, 0, 4, 0, 4, 1, 4, 3);
        Check.due("a corner of what is left alone", twins.fallsApart(), false);
        Check.due("two are left", Make.doors(4, 0, 1, 2, 3).fallsApart(), false);
        Check.due("a ring of 4 is left", Make.doors(6, 0, 1, 1, 2, 2, 3, 3, 0, 3, 4, 4, 5).fallsApart(), false);
    }

    private static void fallsApartToASingleRoom() {
        Check.sentence("Promise 14", "comes to leave a single ROOM");
        Check.due("a single room from the beginning on", new Coppinghouse().fallsApart(), true);
        Check.due("two rooms, one door", Make.family(2, Coppinghouse.PATH).fallsApart(), true);
        Check.due("two rooms, no door", Make.rooms(2).fallsApart(), false);
        Check.due("the smallest ring", Make.family(3, Coppinghouse.RING).fallsApart(), true);
        Check.due("a ring of 4", Make.family(4, Coppinghouse.RING).fallsApart(), false);
        Check.due("nine rooms without doors", Make.rooms(9).fallsApart(), false);
    }
}
