/** Promises 19 to 21, and the terms on colours: a test for each sentence that names a boundary case. */
public final class ColoursEdgesTest {
    private static final int FAR = Integer.MAX_VALUE;
    private static final int LOW = Integer.MIN_VALUE;

    private ColoursEdgesTest() {
    }

    public static void main(String[] args) {
        Check.each(ColoursEdgesTest::forcedByOthersThanRooms);
        Check.each(ColoursEdgesTest::roundsOfOthersThanRooms);
        Check.each(ColoursEdgesTest::forcedByNoneAndByAll);
        Check.each(ColoursEdgesTest::roundsOfNoneAndOfAll);
        Check.each(ColoursEdgesTest::justOneWhiteRoom);
        Check.each(ColoursEdgesTest::aheadOfTheRound);
        Check.each(ColoursEdgesTest::forcedAsLongAsRoundsGoOn);
        Check.each(ColoursEdgesTest::roundsAsLongAsTheyGoOn);
        Check.each(ColoursEdgesTest::fewestRooms);
        Check.each(ColoursEdgesTest::lowestOfAlikeOnes);
        Check.end("ColoursEdgesTest");
    }

    private static int[] othersThanRooms(int many) {
        int all = (1 << many) - 1;
        return new int[] {all + 1, all + 2, 2 * all + 1, 1 << 30, FAR, -1, -2, LOW, LOW + all};
    }

    private static void forcedByOthersThanRooms() {
        Check.sentence("Promise 19", "IllegalArgumentException: another argument is out of its range; a set with "
                + "others than ROOMS, too.");
        for (int many = 1; many <= 9; many++) {
            Coppinghouse x = Make.family(many, Coppinghouse.PATH);
            for (int blue : othersThanRooms(many)) {
                Check.argument("forced " + blue + " of " + many, () -> x.forced(blue));
            }
        }
        Coppinghouse y = Make.family(9, Coppinghouse.PATH);
        y.rooms(4);
        Check.argument("rooms that were there", () -> y.forced(511));
    }

    private static void roundsOfOthersThanRooms() {
        Check.sentence("Promise 20", "IllegalArgumentException: another argument is out of its range; a set with "
                + "others than ROOMS, too.");
        for (int many = 1; many <= 9; many++) {
            Coppinghouse x = Make.family(many, Coppinghouse.PATH);
            for (int blue : othersThanRooms(many)) {
                Check.argument("rounds " + blue + " of " + many, () -> x.rounds(blue));
            }
        }
        Coppinghouse y = Make.family(9, Coppinghouse.PATH);
        y.rooms(4);
        Check.argument("a room that was there", () -> y.rounds(16));
    }

    private static void forcedByNoneAndByAll() {
        Check.sentence("Promise 19", "`blue`: the set that is BLUE at first");
        for (int many = 1; many <= 9; many++) {
            Coppinghouse path = Make.family(many, Coppinghouse.PATH);
            Coppinghouse bare = Make.rooms(many);
            int all = (1 << many) - 1;
            int last = 1 << many - 1;
            Check.due("none of " + many, path.forced(0), 0);
            Check.due("all of " + many, path.forced(all), all);
            Check.due("all of " + many + " without doors", bare.forced(all), all);
            Check.due("the last of " + many + " without doors", bare.forced(last), last);
        }
    }

    private static void roundsOfNoneAndOfAll() {
        Check.sentence("Promise 20", "`blue`: the set that is BLUE at first");
        for (int many = 1; many <= 9; many++) {
            Coppinghouse path = Make.family(many, Coppinghouse.PATH);
            Coppinghouse bare = Make.rooms(many);
            int all = (1 << many) - 1;
            Check.due("none of " + many, path.rounds(0), 0);
            Check.due("all of " + many, path.rounds(all), 0);
            Check.due("all of " + many + " without doors", bare.rounds(all), 0);
            Check.due("the last of " + many + " without doors", bare.rounds(1 << many - 1), 0);
        }
    }

    private static void justOneWhiteRoom() {
        Check.sentence("Promises 19 and 20", "in a round each BLUE ROOM that has just one white ROOM NEXT to it makes "
                + "that one BLUE");
        Coppinghouse star = Make.family(9, Coppinghouse.STAR);
        Check.due("eight white ones", star.forced(1), 1);
        Check.due("two white ones", star.forced(127), 127);
        Check.due("two white ones, rounds", star.rounds(127), 0);
        Check.due("one white one", star.forced(255), 511);
        Check.due("one white one, rounds", star.rounds(255), 1);
        Check.due("one white one, the lowest", star.forced(509), 511);
        Check.due("none is left", star.rounds(511), 0);
        Coppinghouse path = Make.family(3, Coppinghouse.PATH);
        Check.due("two make the same one blue", path.forced(5), 7);
        Check.due("two make the same one blue, rounds", path.rounds(5), 1);
        Check.due("a white room makes none blue", path.forced(2), 2);
        Check.due("a blue room without doors makes none blue", Make.doors(3, 0, 1).forced(4), 4);
    }

    private static void aheadOfTheRound() {
        Check.sentence("Promises 19 and 20", "all by what was BLUE ahead of the round");
        Check.due("up the path", Make.family(9, Coppinghouse.PATH).rounds(1), 8);
        Check.due("down the path", Make.family(9, Coppinghouse.PATH).rounds(256), 8);
        // One room has two white ones, and another one makes the first of them blue.
        Coppinghouse up = Make.doors(4, 0, 2, 1, 2, 1, 3);
        Check.due("the lower one first", up.rounds(3), 2);
        Check.due("the lower one first, all", up.forced(3), 15);
        Coppinghouse down = Make.doors(4, 1, 2, 0, 2, 0, 3);
        Check.due("the higher one first", down.rounds(3), 2);
        Check.due("the higher one first, all", down.forced(3), 15);
        Check.due("two at once", Make.family(4, Coppinghouse.PATH).rounds(9), 1);
        Check.due("two at once in the ring", Make.family(4, Coppinghouse.RING).rounds(3), 1);
    }

    private static void forcedAsLongAsRoundsGoOn() {
        Check.sentence("Promise 19", "Rounds go on as long as one makes some ROOM BLUE.");
        Check.due("one room, blue", new Coppinghouse().forced(1), 1);
        Check.due("one room, white", new Coppinghouse().forced(0), 0);
        Check.due("no round makes any", Make.family(9, Coppinghouse.RING).forced(1), 1);
        Check.due("the most rounds", Make.family(9, Coppinghouse.PATH).forced(1), 511);
        Check.due("they end ahead of all", Make.doors(5, 0, 1, 1, 2, 2, 3, 2, 4).forced(1), 7);
    }

    private static void roundsAsLongAsTheyGoOn() {
        Check.sentence("Promise 20", "Rounds go on as long as one makes some ROOM BLUE.");
        Check.due("one room, blue", new Coppinghouse().rounds(1), 0);
        Check.due("one room, white", new Coppinghouse().rounds(0), 0);
        Check.due("no round makes any", Make.family(9, Coppinghouse.RING).rounds(1), 0);
        Check.due("the most rounds", Make.family(9, Coppinghouse.PATH).rounds(1), 8);
        Check.due("they end ahead of all", Make.doors(5, 0, 1, 1, 2, 2, 3, 2, 4).rounds(1), 2);
    }

    private static void fewestRooms() {
        Check.sentence("Promise 21", "Returns the set with the fewest ROOMS by which all ROOMS come to be BLUE");
        Check.due("one room: not the empty set", new Coppinghouse().leastBlue(), 1);
        for (int many = 2; many <= 9; many++) {
            int all = (1 << many) - 1;
            Check.due(many + " rooms without doors: all", Make.rooms(many).leastBlue(), all);
            Check.due("path of " + many, Make.family(many, Coppinghouse.PATH).leastBlue(), 1);
            Check.due("all of " + many, Make.family(many, Coppinghouse.ALL).leastBlue(), all / 2);
        }
        // The ends of this path are 7 and 8: a set of two low rooms is lower as a number, but has more rooms.
        Coppinghouse path = Make.doors(9, 7, 0, 0, 1, 1, 2, 2, 3, 3, 4, 4, 5, 5, 6, 6, 8);
        Check.due("two low rooms are enough, too", path.forced(3), 511);
        Check.due("fewer, though higher", path.leastBlue(), 128);
    }

    private static void lowestOfAlikeOnes() {
        Check.sentence("Promise 21", "of alike ones the lowest as a number");
        Check.due("either end", Make.family(9, Coppinghouse.PATH).leastBlue(), 1);
        Check.due("any two that are next", Make.family(9, Coppinghouse.RING).leastBlue(), 3);
        Check.due("any ends but one", Make.family(9, Coppinghouse.STAR).leastBlue(), 254);
        Check.due("the other end is lower", Make.doors(3, 1, 0, 0, 2).leastBlue(), 2);
        Check.due("either of the two last", Make.doors(3, 1, 2).leastBlue(), 3);
    }
}
