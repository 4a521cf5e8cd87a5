import java.util.function.Supplier;

/** Promises 1 to 8, and the terms on deeds and exceptions: a test for each sentence that names a boundary case. */
public final class RoomsEdgesTest {
    private static final int FAR = Integer.MAX_VALUE;
    private static final int LOW = Integer.MIN_VALUE;
    private static final String INDEX = "throws.IndexOutOfBoundsException";
    private static final String ARGUMENT = "throws.IllegalArgumentException";
    private static final String STATE = "throws.IllegalStateException";
    // 32 and 36 are bits that a shift takes for the rooms 0 and 4.
    private static final int[] NO_ROOMS_OF_4 = {4, 5, 9, 10, 31, 32, 36, FAR, -1, -2, -32, LOW};

    private RoomsEdgesTest() {
    }

    public static void main(String[] args) {
        terms();
        promises1And2();
        promise3();
        promise4();
        promise5();
        promise6();
        promises7And8();
        deeds();
        exceptions();
        Check.end("RoomsEdgesTest");
    }

    private static void terms() {
        Check.each(RoomsEdgesTest::fewestAndMostRooms);
        Check.each(RoomsEdgesTest::doorIsTheSameBothWays);
        Check.each(RoomsEdgesTest::noRoomIsNextToItself);
        Check.each(RoomsEdgesTest::highestBit);
        Check.each(RoomsEdgesTest::lastOf512Calls);
        Check.each(RoomsEdgesTest::lastOf512Graphs);
    }

    private static void fewestAndMostRooms() {
        Check.sentence("Promises 2 and 8", "A GRAPH has ROOMS, 1 to 9, numbered from 0");
        for (int many = 1; many <= 9; many++) {
            Coppinghouse x = Make.rooms(many);
            int above = many;
            Check.due("next of the first of " + many, x.next(0), 0);
            Check.due("next of the last of " + many, x.next(many - 1), 0);
            Check.index("next of one above " + many, () -> x.next(above));
            Check.index("next of one below, of " + many, () -> x.next(-1));
        }
    }

    private static void doorIsTheSameBothWays() {
        Check.sentence("Promise 4", "between two unlike ROOMS there is a DOOR or not, the same one both ways");
        Coppinghouse x = Make.rooms(9);
        Check.due("made from the first to the last", x.door(0, 8, true), false);
        Check.due("there already, from the last to the first", x.door(8, 0, true), true);
        Check.due("next of the first", x.next(0), 256);
        Check.due("next of the last", x.next(8), 1);
        Check.due("one door", x.doors(), 1);
        Check.due("closed from the last to the first", x.door(8, 0, false), true);
        Check.due("closed already, from the first to the last", x.door(0, 8, false), false);
        Check.due("next of the first, closed", x.next(0), 0);
        Check.due("next of the last, closed", x.next(8), 0);
    }

    private static void noRoomIsNextToItself() {
        Check.sentence("Promise 8", "Two ROOMS are NEXT, if there is a DOOR between them");
        for (int many = 1; many <= 9; many++) {
            Coppinghouse x = Make.family(many, Coppinghouse.ALL);
            for (int room = 0; room < many; room++) {
                Check.due("next " + room + " of all of " + many, x.next(room), (1 << many) - 1 - (1 << room));
            }
        }
    }

    private static void highestBit() {
        Check.sentence("Promises 8 and 15", "Sets of ROOMS are told by bits, the bit k for the ROOM k.");
        Coppinghouse x = Make.doors(9, 7, 8, 8, 0);
        Check.due("the lowest and the highest but one", x.next(8), 129);
        Check.due("the highest", x.next(7), 256);
        Check.due("all of 9", x.rabbit(), 511);
        Check.due("all of 1", new Coppinghouse().rabbit(), 1);
    }

    private static void lastOf512Calls() {
        Check.sentence("All promises", "An object is used for at most 512 calls after it has been made");
        Coppinghouse x = Make.rooms(9);
        for (int call = 2; call < 512; call += 2) {
            Check.due("call " + call, x.door(call % 9, (call + 1) % 9, true), false);
            Check.due("call " + (call + 1), x.back(), 0);
        }
        Check.due("call 512", x.rooms(1), 9);
    }

    private static void lastOf512Graphs() {
        Check.sentence("All promises", "An object is used for at most 512 calls after it has been made");
        Coppinghouse x = Make.rooms(9);
        int[] doors = {8, 9, 8, 36};
        int[] times = {8, -1, 2, 1};
        for (int call = 2; call < 512; call += 2) {
            int family = call / 2 % 4;
            Check.due("call " + call, x.family(family), doors[family]);
            Check.due("call " + (call + 1), x.time(8, Coppinghouse.NONE, 4), times[family]);
        }
        Check.due("call 512", x.leastBlue(), 255);
    }

    private static void promises1And2() {
        Check.each(RoomsEdgesTest::newObject);
        Check.each(RoomsEdgesTest::manyOutOfRange);
        Check.each(RoomsEdgesTest::graphWithoutDoors);
        Check.each(RoomsEdgesTest::roomsOfTheOneBefore);
    }

    private static void newObject() {
        Check.sentence("Promise 1", "Begins with a GRAPH of one ROOM.");
        Coppinghouse x = new Coppinghouse();
        Check.due("next 0", x.next(0), 0);
        Check.index("next 1", () -> x.next(1));
        Check.index("door 0 1", () -> x.door(0, 1, true));
        Check.argument("door 0 0", () -> x.door(0, 0, true));
        Check.due("doors", x.doors(), 0);
        Check.due("rabbit", x.rabbit(), 1);
        Check.state("back", x::back);
        Check.state("ring", () -> x.family(Coppinghouse.RING));
        Check.due("rooms 1", x.rooms(1), 1);
    }

    private static void manyOutOfRange() {
        Check.sentence("Promise 2", "Throws `IllegalArgumentException` if many is out of range");
        int[] out = {0, 10, -1, 32, 33, FAR, LOW};
        for (int many : out) {
            Check.argument("rooms " + many, () -> Make.family(5, Coppinghouse.RING).rooms(many));
        }
        Check.due("rooms 1, the fewest", Make.rooms(5).rooms(1), 5);
        Check.due("rooms 9, the most", Make.rooms(5).rooms(9), 5);
    }

    private static void graphWithoutDoors() {
        Check.sentence("Promise 2", "Begins a GRAPH without DOORS.");
        Coppinghouse x = Make.family(9, Coppinghouse.ALL);
        x.rooms(9);
        Check.due("as many rooms as before", x.doors(), 0);
        x.family(Coppinghouse.ALL);
        x.rooms(2);
        Check.due("fewer rooms", x.doors(), 0);
        x.rooms(9);
        Check.due("more rooms", x.doors(), 0);
        for (int room = 0; room < 9; room++) {
            Check.due("next " + room, x.next(room), 0);
        }
        Check.due("no door is left over", x.door(0, 1, false), false);
    }

    private static void roomsOfTheOneBefore() {
        Check.sentence("Promise 2", "Returns how many ROOMS the one before had.");
        Coppinghouse x = new Coppinghouse();
        Check.due("the new object's", x.rooms(9), 1);
        Check.due("the most", x.rooms(9), 9);
        Check.argument("refused", () -> x.rooms(10));
        Check.due("not of the one refused", x.rooms(1), 9);
        Check.due("the fewest", x.rooms(4), 1);
        x.family(Coppinghouse.STAR);
        Check.due("a family's", x.rooms(2), 4);
    }

    private static void promise3() {
        Check.each(RoomsEdgesTest::familyOutOfRange);
        Check.each(RoomsEdgesTest::ringOfTooFewRooms);
        Check.each(RoomsEdgesTest::asManyRoomsAsThereAre);
        Check.each(RoomsEdgesTest::doorsOfPath);
        Check.each(RoomsEdgesTest::doorsOfRing);
        Check.each(RoomsEdgesTest::doorsOfStar);
        Check.each(RoomsEdgesTest::doorsOfAll);
    }

    private static void familyOutOfRange() {
        Check.sentence("Promise 3", "Throws `IllegalArgumentException` if family is out of range");
        int[] out = {-1, 4, 5, 32, 33, FAR, LOW};
        for (int family : out) {
            Check.argument("family " + family, () -> Make.rooms(9).family(family));
            Check.argument("family " + family + " of one room", () -> new Coppinghouse().family(family));
        }
        Check.due("the lowest", Make.rooms(9).family(Coppinghouse.PATH), 8);
        Check.due("the highest", Make.rooms(9).family(Coppinghouse.ALL), 36);
    }

    private static void ringOfTooFewRooms() {
        Check.sentence("Promise 3", "Throws `IllegalStateException` if it is RING, and there are fewer than 3 ROOMS");
        Check.state("ring of 1", () -> Make.rooms(1).family(Coppinghouse.RING));
        Check.state("ring of 2", () -> Make.rooms(2).family(Coppinghouse.RING));
        Check.due("ring of 3, the smallest", Make.rooms(3).family(Coppinghouse.RING), 3);
        for (int many = 1; many <= 2; many++) {
            Check.due("path of " + many, Make.rooms(many).family(Coppinghouse.PATH), many - 1);
            Check.due("star of " + many, Make.rooms(many).family(Coppinghouse.STAR), many - 1);
            Check.due("all of " + many, Make.rooms(many).family(Coppinghouse.ALL), many - 1);
        }
    }

    private static void asManyRoomsAsThereAre() {
        Check.sentence("Promise 3", "Begins the GRAPH of a family, with as many ROOMS as there are");
        for (int many = 1; many <= 9; many++) {
            int above = many;
            Coppinghouse x = Make.family(many, Coppinghouse.ALL);
            Check.index("a room above " + many, () -> x.next(above));
            Check.due("doors of before are gone, of " + many, x.family(Coppinghouse.PATH), many - 1);
            Check.due("doors of " + many, x.doors(), many - 1);
            Check.due("the rooms of " + many, x.rooms(1), many);
        }
    }

    private static void doorsOfPath() {
        Check.sentence("Promise 3", "PATH has DOORS between k and k + 1");
        nextSets("path of 1", Make.family(1, Coppinghouse.PATH), 0);
        nextSets("path of 2", Make.family(2, Coppinghouse.PATH), 2, 1);
        nextSets("path of 9", Make.family(9, Coppinghouse.PATH), 2, 5, 10, 20, 40, 80, 160, 320, 128);
    }

    private static void doorsOfRing() {
        Check.sentence("Promise 3", "RING these, and one between the first ROOM and the last one");
        nextSets("ring of 3", Make.family(3, Coppinghouse.RING), 6, 5, 3);
        nextSets("ring of 9", Make.family(9, Coppinghouse.RING), 258, 5, 10, 20, 40, 80, 160, 320, 129);
    }

    private static void doorsOfStar() {
        Check.sentence("Promise 3", "STAR between 0 and each other one");
        nextSets("star of 1", Make.family(1, Coppinghouse.STAR), 0);
        nextSets("star of 2", Make.family(2, Coppinghouse.STAR), 2, 1);
        nextSets("star of 9", Make.family(9, Coppinghouse.STAR), 510, 1, 1, 1, 1, 1, 1, 1, 1);
    }

    private static void doorsOfAll() {
        Check.sentence("Promise 3", "ALL between each two");
        nextSets("all of 1", Make.family(1, Coppinghouse.ALL), 0);
        nextSets("all of 2", Make.family(2, Coppinghouse.ALL), 2, 1);
        nextSets("all of 9", Make.family(9, Coppinghouse.ALL), 510, 509, 507, 503, 495, 479, 447, 383, 255);
    }

    private static void nextSets(String name, Coppinghouse x, int... due) {
        int ends = 0;
        for (int room = 0; room < due.length; room++) {
            Check.due(name + ", next " + room, x.next(room), due[room]);
            ends += Integer.bitCount(due[room]);
        }
        Check.due(name + ", doors", x.doors(), ends / 2);
    }

    private static void promise4() {
        Check.each(RoomsEdgesTest::doorOfNoRoom);
        Check.each(RoomsEdgesTest::doorBetweenTheSame);
        Check.each(RoomsEdgesTest::deed201IsADoor);
        Check.each(RoomsEdgesTest::doorThatWasThere);
        Check.each(RoomsEdgesTest::doorsFirstNamed);
    }

    private static void doorOfNoRoom() {
        Check.sentence("Promise 4", "Throws `IndexOutOfBoundsException` as told, of both");
        for (int room : NO_ROOMS_OF_4) {
            Check.index("room " + room, () -> Make.rooms(4).door(room, 0, true));
            Check.index("other " + room, () -> Make.rooms(4).door(0, room, true));
            Check.index("room " + room + ", no door", () -> Make.rooms(4).door(room, 3, false));
            Check.index("other " + room + ", no door", () -> Make.rooms(4).door(3, room, false));
        }
        Check.due("the lowest and the highest", Make.rooms(4).door(0, 3, true), false);
        Check.due("the highest of 9", Make.rooms(9).door(8, 7, true), false);
    }

    private static void doorBetweenTheSame() {
        Check.sentence("Promise 4", "Throws `IllegalArgumentException` if both are the same");
        for (int room = 0; room < 9; room++) {
            int same = room;
            Check.argument("making at " + room, () -> Make.rooms(9).door(same, same, true));
            Check.argument("closing at " + room, () -> Make.rooms(9).door(same, same, false));
        }
    }

    private static void deed201IsADoor() {
        Check.sentence("Promise 4", "Throws `IllegalStateException` if it is a DEED, and there are 200");
        Coppinghouse x = Make.rooms(9);
        for (int deed = 1; deed <= 200; deed++) {
            Check.due("deed " + deed, x.door(0, 8, deed % 2 != 0), deed % 2 == 0);
        }
        Check.state("making, deed 201", () -> x.door(3, 4, true));
        Check.due("no deed: closed as it was", x.door(0, 8, false), false);
        Check.due("one is taken back", x.back(), 199);
        Check.due("no deed: made as it was", x.door(8, 0, true), true);
        Check.due("deed 200 again", x.door(3, 4, true), false);
        Check.state("closing, deed 201", () -> x.door(0, 8, false));
        Check.state("closing the other way, deed 201", () -> x.door(4, 3, false));
        Check.due("no deed: made as it was, of 200", x.door(4, 3, true), true);
        Check.due("200 were there", x.back(), 199);
        Check.state("shots count, too", () -> Make.fullOfDeeds().door(0, 3, true));
        Check.due("shots count, no deed", Make.fullOfDeeds().door(0, 3, false), false);
    }

    private static void doorThatWasThere() {
        Check.sentence("Promise 4", "Returns whether there was one.");
        Coppinghouse x = Make.rooms(2);
        Check.due("closing none", x.door(0, 1, false), false);
        Check.due("making the first", x.door(0, 1, true), false);
        Check.due("making it again", x.door(0, 1, true), true);
        Check.due("closing it", x.door(0, 1, false), true);
        Check.due("closing it again", x.door(0, 1, false), false);
    }

    private static void doorsFirstNamed() {
        Check.sentence("Promise 4",
                "If several apply, the one that is named first in the throws clause is thrown");
        for (int room : NO_ROOMS_OF_4) {
            Check.index("no room, and the same: " + room, () -> Make.rooms(4).door(room, room, true));
            Check.index("no room, and 200 deeds: " + room, () -> Make.fullOfDeeds().door(0, room, true));
        }
        Check.argument("the same, and 200 deeds", () -> Make.fullOfDeeds().door(2, 2, true));
        Check.index("no room, the same, and 200 deeds", () -> Make.fullOfDeeds().door(4, 4, true));
    }

    private static void promise5() {
        Check.each(RoomsEdgesTest::shotAtNoRoom);
        Check.each(RoomsEdgesTest::shotOfTheEmptySet);
        Check.each(RoomsEdgesTest::deed201IsAShot);
        Check.each(RoomsEdgesTest::shotsFirstNamed);
        Check.each(RoomsEdgesTest::setBehindTheShot);
    }

    private static void shotAtNoRoom() {
        Check.sentence("Promise 5", "Throws `IndexOutOfBoundsException` as told");
        for (int room : NO_ROOMS_OF_4) {
            Check.index("shoot " + room, () -> Make.family(4, Coppinghouse.RING).shoot(room));
        }
        Check.due("the lowest room", Make.family(4, Coppinghouse.PATH).shoot(0), 15);
        Check.due("the highest room", Make.family(4, Coppinghouse.STAR).shoot(3), 15);
    }

    private static void shotOfTheEmptySet() {
        Check.sentence("Promise 5", "Throws `IllegalStateException` if the SET is empty, or there are 200 DEEDS");
        for (int many = 1; many <= 9; many++) {
            Coppinghouse x = Make.emptySet(many);
            int last = many - 1;
            Check.state("empty, of " + many, () -> x.shoot(last));
            Check.due("empty, the only deed of " + many, x.back(), 0);
            Check.due("not empty any more, of " + many, x.shoot(last), 0);
        }
    }

    private static void deed201IsAShot() {
        Check.sentence("Promise 5", "Throws `IllegalStateException` if the SET is empty, or there are 200 DEEDS");
        Coppinghouse x = Make.family(9, Coppinghouse.RING);
        for (int deed = 1; deed <= 200; deed++) {
            Check.due("deed " + deed, x.shoot(deed % 9), 511);
        }
        Check.state("deed 201", () -> x.shoot(0));
        Check.due("one is taken back", x.back(), 199);
        Check.due("deed 200 again", x.shoot(0), 511);
        Check.state("deed 201 again", () -> x.shoot(8));
        Check.state("doors count, too", () -> Make.fullOfDeeds().shoot(0));
        Check.due("deed 200 empties the set", emptyWith200Deeds().rabbit(), 0);
        Check.state("200 deeds, and empty", () -> emptyWith200Deeds().shoot(0));
        Check.due("200 deeds, and empty: deed 200 is taken back", emptyWith200Deeds().back(), 199);
    }

    private static Coppinghouse emptyWith200Deeds() {
        Coppinghouse x = Make.family(2, Coppinghouse.PATH);
        for (int deed = 1; deed <= 199; deed++) {
            x.door(0, 1, deed % 2 == 0);
        }
        x.shoot(0);
        return x;
    }

    private static void shotsFirstNamed() {
        Check.sentence("Promise 5",
                "If several apply, the one that is named first in the throws clause is thrown");
        for (int room : NO_ROOMS_OF_4) {
            Check.index("no room, and empty: " + room, () -> Make.emptySet(4).shoot(room));
            Check.index("no room, and 200 deeds: " + room, () -> Make.fullOfDeeds().shoot(room));
        }
    }

    private static void setBehindTheShot() {
        Check.sentence("Promise 5", "Returns the SET then.");
        Coppinghouse x = Make.doors(9, 0, 8);
        Check.due("of the one door's ends one is left", x.shoot(0), 1);
        Check.due("outside of the set", x.shoot(4), 256);
        Check.due("the rabbit's set", x.rabbit(), 256);
        Check.due("the last one", x.shoot(8), 0);
        Check.due("the empty set", x.rabbit(), 0);
        Check.due("a single room", new Coppinghouse().shoot(0), 0);
    }

    private static void promise6() {
        Check.each(RoomsEdgesTest::backOfNone);
        Check.each(RoomsEdgesTest::deedsThatAreLeft);
    }

    private static void backOfNone() {
        Check.sentence("Promise 6", "Throws `IllegalStateException` if there is none");
        Check.state("a new object", () -> new Coppinghouse().back());
        Check.state("rooms are no deed", () -> Make.rooms(9).back());
        Check.state("a family is no deed", () -> Make.family(9, Coppinghouse.RING).back());
        Coppinghouse x = Make.emptySet(2);
        Check.due("the only one", x.back(), 0);
        Check.state("none is left", x::back);
        Check.state("none is left, once more", x::back);
        x.door(0, 1, true);
        Check.due("a new one", x.back(), 0);
        Check.state("none is left again", x::back);
    }

    private static void deedsThatAreLeft() {
        Check.sentence("Promise 6", "Returns how many DEEDS are left.");
        Coppinghouse x = Make.fullOfDeeds();
        for (int left = 199; left >= 0; left--) {
            Check.due("of 200", x.back(), left);
        }
        Check.state("none of 200", x::back);
        Check.due("the graph is as it began", x.doors(), 3);
        Check.due("the set is as it began", x.rabbit(), 15);
    }

    private static void promises7And8() {
        Check.each(RoomsEdgesTest::fewestAndMostDoors);
        Check.each(RoomsEdgesTest::nextOfNoRoom);
        Check.each(RoomsEdgesTest::fewestAndMostNext);
    }

    private static void fewestAndMostDoors() {
        Check.sentence("Promise 7", "Returns how many DOORS there are.");
        for (int many = 1; many <= 9; many++) {
            Coppinghouse x = Make.rooms(many);
            Check.due("none, of " + many, x.doors(), 0);
            x.family(Coppinghouse.ALL);
            Check.due("the most, of " + many, x.doors(), many * (many - 1) / 2);
        }
    }

    private static void nextOfNoRoom() {
        Check.sentence("Promise 8", "Throws `IndexOutOfBoundsException` as told");
        for (int room : NO_ROOMS_OF_4) {
            Check.index("next " + room, () -> Make.family(4, Coppinghouse.ALL).next(room));
        }
        Coppinghouse y = Make.family(9, Coppinghouse.ALL);
        y.rooms(4);
        Check.index("a room that was there", () -> y.next(8));
    }

    private static void fewestAndMostNext() {
        Check.sentence("Promise 8", "Returns the set of ROOMS that are NEXT to one.");
        Check.due("none", Make.rooms(4).next(3), 0);
        Check.due("the most, of the lowest room", Make.family(9, Coppinghouse.STAR).next(0), 510);
        Check.due("the most, of the highest room", Make.family(9, Coppinghouse.ALL).next(8), 255);
    }

    private static void deeds() {
        Check.each(RoomsEdgesTest::doorToldAsItWas);
        Check.each(RoomsEdgesTest::allRoomsAgain);
        Check.each(RoomsEdgesTest::takenBackAsOftenAsThereAreDeeds);
        Check.each(RoomsEdgesTest::emptySetIsTakenBack);
        Check.each(RoomsEdgesTest::beginningForgetsAllDeeds);
        Check.each(RoomsEdgesTest::beginningForgets200Deeds);
    }

    private static void doorToldAsItWas() {
        Check.sentence("Promises 4 and 6",
                "A DEED is a DOOR that was made or closed, not one told as it was, or a SHOT.");
        Coppinghouse x = Make.doors(3, 0, 1);
        x.shoot(0);
        Check.due("the set behind the shot", x.rabbit(), 1);
        x.door(1, 0, true);
        Check.due("an open door told as it was: the set stays", x.rabbit(), 1);
        x.door(0, 2, false);
        Check.due("a closed door told as it was: the set stays", x.rabbit(), 1);
        Check.due("the shot is the latest deed", x.back(), 1);
        Check.due("the set ahead of the shot", x.rabbit(), 7);
        Check.due("the door is the first deed", x.back(), 0);
        Check.due("the door is closed", x.doors(), 0);
    }

    private static void allRoomsAgain() {
        Check.sentence("Promises 4 and 15", "With a DOOR that is made or closed the SET has all ROOMS again.");
        Coppinghouse x = Make.emptySet(9);
        Check.due("the set is empty", x.rabbit(), 0);
        x.door(0, 1, true);
        Check.due("a door is made", x.rabbit(), 511);
        Check.due("a shot", x.shoot(0), 1);
        x.door(0, 1, false);
        Check.due("a door is closed", x.rabbit(), 511);
    }

    private static void takenBackAsOftenAsThereAreDeeds() {
        Check.sentence("Promise 6", "The latest DEED can be taken back, as often as there are DEEDS");
        Coppinghouse x = Make.family(9, Coppinghouse.PATH);
        int[] sets = new int[200];
        int[] firsts = new int[200];
        for (int deed = 0; deed < 200; deed++) {
            sets[deed] = x.rabbit();
            firsts[deed] = x.next(0);
            if (deed % 3 == 0) {
                x.door(0, 8 - deed % 5, (firsts[deed] & 1 << 8 - deed % 5) == 0);
            } else {
                x.shoot(deed * 5 % 9);
            }
        }
        for (int left = 199; left >= 0; left--) {
            Check.due("left", x.back(), left);
            Check.due("the set ahead of deed " + left, x.rabbit(), sets[left]);
            Check.due("the doors ahead of deed " + left, x.next(0), firsts[left]);
        }
        Check.state("not once more", x::back);
    }

    private static void emptySetIsTakenBack() {
        Check.sentence("Promises 6 and 15", "the DOOR, and the SET, are then as they were ahead of it");
        Coppinghouse x = Make.doors(9, 0, 8);
        x.shoot(0);
        x.shoot(4);
        x.shoot(8);
        Check.due("empty", x.rabbit(), 0);
        x.door(8, 0, false);
        Check.due("all again", x.rabbit(), 511);
        Check.due("the closed door is taken back", x.back(), 4);
        Check.due("open as ahead of it", x.next(8), 1);
        Check.due("empty as ahead of it", x.rabbit(), 0);
        x.door(3, 4, true);
        Check.due("the made door is taken back", x.back(), 4);
        Check.due("closed as ahead of it", x.next(3), 0);
        Check.due("empty as ahead of it, too", x.rabbit(), 0);
        Check.due("the shot is taken back", x.back(), 3);
        Check.due("the set ahead of the last shot", x.rabbit(), 256);
        Check.due("the hunt ahead of the last shot", x.hunt(), 1);
    }

    private static void beginningForgetsAllDeeds() {
        Check.sentence("Promises 2, 3 and 6",
                "To begin a GRAPH, or a family, forgets all DEEDS; the SET has all ROOMS then.");
        Coppinghouse x = Make.emptySet(5);
        x.rooms(5);
        Check.state("as many rooms as before, none is left", x::back);
        Check.due("as many rooms as before, the set", x.rabbit(), 31);
        x.shoot(0);
        x.family(Coppinghouse.PATH);
        Check.state("a family, none is left", x::back);
        Check.due("a family, the set", x.rabbit(), 31);
        Check.due("a shot", x.shoot(1), 30);
        x.family(Coppinghouse.PATH);
        Check.state("the same family, none is left", x::back);
        Check.due("the same family, the set", x.rabbit(), 31);
        x.rooms(9);
        Check.due("more rooms, the set", x.rabbit(), 511);
        x.rooms(1);
        Check.due("one room, the set", x.rabbit(), 1);
        x.family(Coppinghouse.ALL);
        Check.due("a family of one room, the set", x.rabbit(), 1);
    }

    private static void beginningForgets200Deeds() {
        Check.sentence("Promises 2, 3 and 6",
                "To begin a GRAPH, or a family, forgets all DEEDS; the SET has all ROOMS then.");
        Coppinghouse x = Make.fullOfDeeds();
        Check.due("a family in spite of 200 deeds", x.family(Coppinghouse.PATH), 3);
        Check.due("place for a shot", x.shoot(1), 14);
        Check.due("the only deed", x.back(), 0);
        Coppinghouse y = Make.fullOfDeeds();
        Check.due("rooms in spite of 200 deeds", y.rooms(4), 4);
        Check.due("place for a door", y.door(0, 1, true), false);
        Check.due("the only one", y.back(), 0);
    }

    private static void exceptions() {
        Check.each(RoomsEdgesTest::refusedOfRoomsAndFamilies);
        Check.each(RoomsEdgesTest::refusedDoors);
        Check.each(RoomsEdgesTest::refusedShots);
        Check.each(RoomsEdgesTest::refusedBack);
        Check.each(RoomsEdgesTest::refusedQuestions);
    }

    private static Coppinghouse inTheMiddle() {
        Coppinghouse x = Make.doors(5, 0, 1, 1, 2, 2, 3, 3, 4);
        x.shoot(1);
        x.shoot(2);
        x.door(0, 4, true);
        x.door(0, 4, false);
        x.shoot(1);
        return x;
    }

    private static void refusedOfRoomsAndFamilies() {
        Check.sentence("Promises 2 and 3", "a call that throws changes nothing");
        Supplier<Coppinghouse> middle = RoomsEdgesTest::inTheMiddle;
        Supplier<Coppinghouse> two = () -> Make.doors(2, 0, 1);
        Check.changesNothing("rooms 0", middle, x -> x.rooms(0), ARGUMENT);
        Check.changesNothing("rooms 10", middle, x -> x.rooms(10), ARGUMENT);
        Check.changesNothing("family -1", middle, x -> x.family(-1), ARGUMENT);
        Check.changesNothing("family 4", middle, x -> x.family(4), ARGUMENT);
        Check.changesNothing("a ring of 2", two, x -> x.family(Coppinghouse.RING), STATE);
        Check.changesNothing("a ring of 1", Coppinghouse::new, x -> x.family(Coppinghouse.RING), STATE);
    }

    private static void refusedDoors() {
        Check.sentence("Promise 4", "a call that throws changes nothing");
        Supplier<Coppinghouse> middle = RoomsEdgesTest::inTheMiddle;
        Check.changesNothing("no room", middle, x -> x.door(5, 0, true), INDEX);
        Check.changesNothing("no other room", middle, x -> x.door(0, 5, true), INDEX);
        Check.changesNothing("no other room, below", middle, x -> x.door(0, -1, true), INDEX);
        Check.changesNothing("the same", middle, x -> x.door(3, 3, true), ARGUMENT);
        Check.changesNothing("deed 201, made", Make::fullOfDeeds, x -> x.door(0, 2, true), STATE);
        Check.changesNothing("deed 201, closed", Make::fullOfDeeds, x -> x.door(0, 1, false), STATE);
    }

    private static void refusedShots() {
        Check.sentence("Promise 5", "a call that throws changes nothing");
        Supplier<Coppinghouse> middle = RoomsEdgesTest::inTheMiddle;
        Check.changesNothing("no room", middle, x -> x.shoot(5), INDEX);
        Check.changesNothing("no room, below", middle, x -> x.shoot(-1), INDEX);
        Check.changesNothing("empty", () -> Make.emptySet(4), x -> x.shoot(0), STATE);
        Check.changesNothing("deed 201", Make::fullOfDeeds, x -> x.shoot(1), STATE);
        Check.changesNothing("deed 201, and empty", RoomsEdgesTest::emptyWith200Deeds, x -> x.shoot(1), STATE);
    }

    private static void refusedBack() {
        Check.sentence("Promise 6", "a call that throws changes nothing");
        Check.changesNothing("new", Coppinghouse::new, Coppinghouse::back, STATE);
        Check.changesNothing("a ring", () -> Make.family(9, Coppinghouse.RING), Coppinghouse::back, STATE);
    }

    private static void refusedQuestions() {
        Check.sentence("Promises 8 to 20", "a call that throws changes nothing");
        Supplier<Coppinghouse> middle = RoomsEdgesTest::inTheMiddle;
        Check.changesNothing("next", middle, x -> x.next(5), INDEX);
        Check.changesNothing("time", middle, x -> x.time(5, 0, 0), INDEX);
        Check.changesNothing("timeAnew, no room", middle, x -> x.timeAnew(0, 5, 0, 3), INDEX);
        Check.changesNothing("timeAnew, most", middle, x -> x.timeAnew(0, 1, 0, 4), ARGUMENT);
        Check.changesNothing("step", middle, x -> x.step(0, 0, 5), INDEX);
        Check.changesNothing("away", middle, x -> x.away(-1, 0, 0), INDEX);
        Check.changesNothing("catches", middle, x -> x.catches(3), ARGUMENT);
        Check.changesNothing("huntAnew", middle, x -> x.huntAnew(5), ARGUMENT);
        Check.changesNothing("forced", middle, x -> x.forced(32), ARGUMENT);
        Check.changesNothing("rounds", middle, x -> x.rounds(-1), ARGUMENT);
    }
}
