/** Promises 15 to 18, and the terms on the rabbit: a test for each sentence that names a boundary case. */
public final class RabbitEdgesTest {
    private static final int FAR = Integer.MAX_VALUE;
    private static final int LOW = Integer.MIN_VALUE;

    private RabbitEdgesTest() {
    }

    public static void main(String[] args) {
        promise15();
        promise16();
        promise17();
        promise18();
        Check.end("RabbitEdgesTest");
    }

    private static void promise15() {
        Check.each(RabbitEdgesTest::allRoomsAtFirst);
        Check.each(RabbitEdgesTest::roomTakenOff);
        Check.each(RabbitEdgesTest::fromARoomWithoutDoors);
        Check.each(RabbitEdgesTest::emptySet);
    }

    private static void allRoomsAtFirst() {
        Check.sentence("Promise 15", "The RABBIT is in some ROOM of a SET, which has all ROOMS at first.");
        Check.due("a new object", new Coppinghouse().rabbit(), 1);
        for (int many = 1; many <= 9; many++) {
            Check.due(many + " rooms", Make.rooms(many).rabbit(), (1 << many) - 1);
            Check.due("a path of " + many, Make.family(many, Coppinghouse.PATH).rabbit(), (1 << many) - 1);
        }
    }

    private static void roomTakenOff() {
        Check.sentence("Promises 5 and 15", "A SHOT is at a ROOM, of the SET or not: that ROOM is taken off the SET; "
                + "then the SET becomes all ROOMS that are NEXT to one that it has then");
        Coppinghouse star = Make.family(9, Coppinghouse.STAR);
        Check.due("of the set: 0", star.shoot(0), 1);
        Check.due("not of the set: 8", star.shoot(8), 510);
        Check.due("not of the set: 0", star.shoot(0), 1);
        Check.due("the only one of the set", star.shoot(0), 0);
        Coppinghouse pair = Make.family(2, Coppinghouse.PATH);
        Check.due("one of two", pair.shoot(1), 2);
        Check.due("the other one is not of the set", pair.shoot(0), 1);
        Check.due("the one that is left", pair.shoot(0), 0);
        Check.due("a rabbit that is not hit can't stay", Make.family(2, Coppinghouse.PATH).shoot(0), 1);
    }

    private static void fromARoomWithoutDoors() {
        Check.sentence("Promises 5 and 15", "from a ROOM without DOORS it comes nowhere");
        Check.due("9 rooms without doors", Make.rooms(9).shoot(4), 0);
        Check.due("one room", new Coppinghouse().shoot(0), 0);
        Check.due("7 rooms without doors, and a path", Make.doors(9, 3, 8).shoot(0), 264);
        Check.due("the last room has none", Make.doors(3, 0, 1).shoot(1), 2);
    }

    private static void emptySet() {
        Check.sentence("Promises 5 and 15", "It is hit for sure, if the SET is empty.");
        Coppinghouse x = Make.family(9, Coppinghouse.STAR);
        x.shoot(0);
        Check.due("one room is not yet sure", x.rabbit(), 1);
        Check.due("there can be a shot", x.shoot(0), 0);
        Check.due("the set is empty", x.rabbit(), 0);
        Check.state("no shot any more", () -> x.shoot(0));
        Check.due("the set stays empty", x.rabbit(), 0);
    }

    private static void promise16() {
        Check.each(RabbitEdgesTest::huntOfTheEmptySet);
        Check.each(RabbitEdgesTest::noHunt);
        Check.each(RabbitEdgesTest::fewestShots);
        Check.each(RabbitEdgesTest::huntOf200Deeds);
    }

    private static void huntOfTheEmptySet() {
        Check.sentence("Promise 16", "0, if it is empty now");
        Coppinghouse one = new Coppinghouse();
        one.shoot(0);
        Check.due("one room", one.hunt(), 0);
        for (int many = 2; many <= 9; many++) {
            Coppinghouse x = Make.emptySet(many);
            Check.due(many + " rooms", x.hunt(), 0);
            x.back();
            Check.due(many + " rooms, not empty", x.hunt(), 1);
        }
        Coppinghouse door = Make.emptySet(3);
        door.door(0, 1, true);
        Check.due("a door that is made", door.hunt(), 2);
        door.back();
        Check.due("the door is taken back", door.hunt(), 0);
    }

    private static void noHunt() {
        Check.sentence("Promise 16", "there is none, if no SHOTS do that");
        for (int many = 3; many <= 9; many++) {
            Check.due("a ring of " + many, Make.family(many, Coppinghouse.RING).hunt(), -1);
            Check.due("all of " + many, Make.family(many, Coppinghouse.ALL).hunt(), -1);
        }
        Check.due("a ring of 3 among 9", Make.doors(9, 6, 7, 7, 8, 8, 6).hunt(), -1);
        // Three tails of 3 rooms would have none: that are 10 rooms, one too many.
        Check.due("three tails of 2 rooms", Make.doors(7, 0, 1, 1, 2, 0, 3, 3, 4, 0, 5, 5, 6).hunt(), 10);
        Check.due("two of 3, one of 2", Make.doors(9, 0, 1, 1, 2, 2, 3, 0, 4, 4, 5, 5, 6, 0, 7, 7, 8).hunt() > 0, true);
    }

    private static void fewestShots() {
        Check.sentence("Promise 16", "The HUNT is the least number of SHOTS, from now on, behind which the SET is empty");
        Check.due("one room", new Coppinghouse().hunt(), 1);
        Check.due("9 rooms without doors", Make.rooms(9).hunt(), 1);
        Check.due("two rooms", Make.family(2, Coppinghouse.PATH).hunt(), 2);
        Check.due("a star of 9", Make.family(9, Coppinghouse.STAR).hunt(), 2);
        Check.due("a path of 9", Make.family(9, Coppinghouse.PATH).hunt(), 14);
        Coppinghouse x = Make.family(5, Coppinghouse.PATH);
        Check.due("a path of 5", x.hunt(), 6);
        x.shoot(1);
        Check.due("from then on", x.hunt(), 5);
        x.shoot(4);
        Check.due("from a bad shot on", x.hunt(), 6);
        x.back();
        Check.due("from ahead of it", x.hunt(), 5);
    }

    private static void huntOf200Deeds() {
        Check.sentence("Promises 16 to 18", "The HUNT is the least number of SHOTS, from now on");
        // That none of these shots can be shot is said of shoot alone.
        Check.due("the set", Make.fullOfDeeds().rabbit(), 7);
        Check.due("hunt", Make.fullOfDeeds().hunt(), 3);
        Check.due("huntAnew", Make.fullOfDeeds().huntAnew(3), 3);
        Check.due("aim", Make.fullOfDeeds().aim(), 1);
    }

    private static void promise17() {
        Check.each(RabbitEdgesTest::mostOutOfRange);
        Check.each(RabbitEdgesTest::huntThatIsMost);
        Check.each(RabbitEdgesTest::noneWithinMost);
    }

    private static void mostOutOfRange() {
        Check.sentence("Promise 17", "Throws `IllegalArgumentException` if most is out of range");
        int[] out = {-1, 5, 6, FAR, LOW};
        for (int most : out) {
            Check.argument("most " + most, () -> Make.family(4, Coppinghouse.PATH).huntAnew(most));
            Check.argument("empty, most " + most, () -> Make.emptySet(4).huntAnew(most));
            Check.argument("one room, most " + most, () -> new Coppinghouse().huntAnew(most));
        }
        Check.due("the least most", Make.emptySet(4).huntAnew(0), 0);
        Check.due("the greatest most", Make.emptySet(4).huntAnew(4), 0);
    }

    private static Coppinghouse withHunt(int hunt) {
        switch (hunt) {
            case 0:
                return Make.emptySet(9);
            case 1:
                return Make.rooms(9);
            case 2:
                return Make.family(9, Coppinghouse.STAR);
            default:
                // On this path the best shots are 1, 2, 3, 3, 2 and 1.
                Coppinghouse x = Make.family(5, Coppinghouse.PATH);
                for (int left = 6; left > hunt; left--) {
                    x.shoot(left > 3 ? 7 - left : left);
                }
                return x;
        }
    }

    private static void huntThatIsMost() {
        Check.sentence("Promise 17", "Returns the same, found by playing out, if it is at most so much.");
        for (int hunt = 0; hunt <= 6; hunt++) {
            Check.due("the hunt", withHunt(hunt).hunt(), hunt);
            for (int most = 0; most <= 4; most++) {
                int due = hunt <= most ? hunt : -1;
                Check.due("hunt " + hunt + ", most " + most, withHunt(hunt).huntAnew(most), due);
            }
        }
        Check.due("a shot at the highest room", highestAlone().huntAnew(1), 1);
    }

    private static void noneWithinMost() {
        Check.sentence("Promise 17", "Returns the HUNT; NONE if there is none, or it is greater than most.");
        for (int most = 0; most <= 4; most++) {
            Check.due("none, most " + most, Make.family(3, Coppinghouse.RING).huntAnew(most), -1);
            Check.due("none of 9, most " + most, Make.family(9, Coppinghouse.ALL).huntAnew(most), -1);
            Check.due("greater, most " + most, Make.family(5, Coppinghouse.PATH).huntAnew(most), -1);
            Check.due("greatest, most " + most, Make.family(9, Coppinghouse.PATH).huntAnew(most), -1);
        }
    }

    private static void promise18() {
        Check.each(RabbitEdgesTest::noAim);
        Check.each(RabbitEdgesTest::lowestRoomOfAll);
        Check.each(RabbitEdgesTest::oneLessBehindIt);
    }

    private static void noAim() {
        Check.sentence("Promise 18", "Returns the ROOM of the best SHOT; NONE if the SET is empty, or there is no HUNT.");
        Check.due("no hunt", Make.family(3, Coppinghouse.RING).aim(), -1);
        Check.due("no hunt of 9", Make.family(9, Coppinghouse.ALL).aim(), -1);
        for (int many = 1; many <= 9; many++) {
            Check.due("empty, of " + many, Make.emptySet(many).aim(), -1);
        }
        Coppinghouse x = Make.emptySet(3);
        x.door(0, 1, true);
        Check.due("not empty any more", x.aim(), 0);
        x.back();
        Check.due("empty again", x.aim(), -1);
    }

    private static void lowestRoomOfAll() {
        Check.sentence("Promise 18",
                "The best SHOT is at the lowest ROOM, of the SET or not, behind which the HUNT is 1 less.");
        Check.due("one room", new Coppinghouse().aim(), 0);
        Check.due("wherever it is", Make.rooms(9).aim(), 0);
        Check.due("both ends are alike", Make.family(2, Coppinghouse.PATH).aim(), 0);
        Coppinghouse star = Make.family(9, Coppinghouse.STAR);
        star.shoot(0);
        Check.due("the ends alone", star.shoot(1), 510);
        Check.due("a room that is not of the set", star.aim(), 0);
        Coppinghouse last = Make.doors(9, 8, 7, 7, 6);
        Check.due("the last one's set", last.shoot(7), 128);
        Check.due("of the set, a high one", last.aim(), 7);
        Coppinghouse none = Make.doors(3, 1, 2);
        Check.due("no set has 0 then", none.shoot(0), 6);
        Check.due("a shot at 0 is lost", none.aim(), 1);
    }

    private static void oneLessBehindIt() {
        Check.sentence("Promise 18", "behind which the HUNT is 1 less");
        Coppinghouse x = Make.family(9, Coppinghouse.PATH);
        for (int left = 14; left > 0; left--) {
            Check.due("the hunt", x.hunt(), left);
            x.shoot(x.aim());
        }
        Check.due("the hunt behind all", x.hunt(), 0);
        Check.due("no aim behind all", x.aim(), -1);
        Check.due("the last room alone", highestAlone().aim(), 8);
        Check.due("its hunt", highestAlone().hunt(), 1);
    }

    private static Coppinghouse highestAlone() {
        Coppinghouse x = Make.doors(9, 7, 8);
        x.shoot(8);
        return x;
    }
}
