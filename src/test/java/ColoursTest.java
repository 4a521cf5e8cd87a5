/** Promises 19 to 21: what blue rooms force, in how many rounds, and the least set that forces all. */
public final class ColoursTest {
    private ColoursTest() {
    }

    public static void main(String[] args) {
        promise19Forced();
        promise20Rounds();
        promise21LeastBlue();
        wrongSets();
        Check.end("ColoursTest");
    }

    private static void promise19Forced() {
        Coppinghouse path = Make.family(9, Coppinghouse.PATH);
        Check.due("19 from the end", path.forced(1), 511);
        Check.due("19 from the other end", path.forced(256), 511);
        Check.due("19 from the middle", path.forced(16), 16);
        Check.due("19 two in the middle", path.forced(24), 511);
        Check.due("19 nothing", path.forced(0), 0);
        Check.due("19 all", path.forced(511), 511);
        Coppinghouse star = Make.family(5, Coppinghouse.STAR);
        Check.due("19 an end forces the middle", star.forced(2), 3);
        Check.due("19 all ends but one", star.forced(14), 31);
        Check.due("19 three are blue", star.forced(6), 7);
        // Both force the same room.
        Check.due("19 from both sides", Make.family(3, Coppinghouse.PATH).forced(5), 7);
    }

    private static void promise20Rounds() {
        Coppinghouse path = Make.family(9, Coppinghouse.PATH);
        Check.due("20 from the end", path.rounds(1), 8);
        Check.due("20 from both ends", path.rounds(257), 4);
        Check.due("20 from the middle", path.rounds(16), 0);
        Check.due("20 two in the middle", path.rounds(24), 4);
        Check.due("20 nothing", path.rounds(0), 0);
        Check.due("20 all", path.rounds(511), 0);
        Check.due("20 both ends of 4", Make.family(4, Coppinghouse.PATH).rounds(9), 1);
        Coppinghouse star = Make.family(5, Coppinghouse.STAR);
        Check.due("20 first the middle", star.rounds(14), 2);
        Check.due("20 the middle is blue", star.rounds(15), 1);
        // In a ring of 6 from 0 and 1: 2 and 5, then 3 and 4.
        Check.due("20 ring", Make.family(6, Coppinghouse.RING).rounds(3), 2);
    }

    private static void promise21LeastBlue() {
        Check.due("21 path", Make.family(9, Coppinghouse.PATH).leastBlue(), 1);
        Check.due("21 ring", Make.family(9, Coppinghouse.RING).leastBlue(), 3);
        Check.due("21 star", Make.family(5, Coppinghouse.STAR).leastBlue(), 14);
        Check.due("21 all", Make.family(5, Coppinghouse.ALL).leastBlue(), 15);
        Coppinghouse x = new Coppinghouse();
        x.rooms(9);
        Check.due("21 no doors", x.leastBlue(), 511);
        x.door(7, 8, true);
        Check.due("21 one door", x.leastBlue(), 255);
        x.back();
        Check.due("21 taken back", x.leastBlue(), 511);
        // The middle of this path is room 0: an end with a higher number is alone enough.
        x.rooms(3);
        x.door(1, 0, true);
        x.door(0, 2, true);
        Check.due("21 fewer rooms, not the lower number", x.leastBlue(), 2);
    }

    private static void wrongSets() {
        Coppinghouse x = Make.family(4, Coppinghouse.PATH);
        int[] wrong = {16, 17, 31, 512, -1, -16, Integer.MAX_VALUE, Integer.MIN_VALUE};
        for (int blue : wrong) {
            Check.argument("19 forced " + blue, () -> x.forced(blue));
            Check.argument("20 rounds " + blue, () -> x.rounds(blue));
        }
        Check.due("19 all of 4", x.forced(15), 15);
        Check.due("20 all of 4", x.rounds(15), 0);
    }
}
