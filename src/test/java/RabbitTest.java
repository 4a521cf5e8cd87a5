/** Promises 15 to 18: the rabbit's set, hunts and the best shot. */
public final class RabbitTest {
    private RabbitTest() {
    }

    public static void main(String[] args) {
        promise15Rabbit();
        promise16Hunt();
        promise16HuntFollows();
        promise17HuntAnew();
        promise18Aim();
        promise18AimHuntsDown();
        Check.end("RabbitTest");
    }

    private static void promise15Rabbit() {
        Coppinghouse x = Make.family(9, Coppinghouse.STAR);
        Check.due("15 all", x.rabbit(), 511);
        x.shoot(0);
        Check.due("15 all to the middle", x.rabbit(), 1);
        x.shoot(4);
        Check.due("15 all to the ends", x.rabbit(), 510);
        x.shoot(4);
        Check.due("15 the middle", x.rabbit(), 1);
        x.shoot(0);
        Check.due("15 none", x.rabbit(), 0);
        x.back();
        Check.due("15 the middle again", x.rabbit(), 1);
        x.door(1, 2, true);
        Check.due("15 all again", x.rabbit(), 511);
        x.back();
        Check.due("15 as ahead of the door", x.rabbit(), 1);
    }

    private static void promise16Hunt() {
        // On a path of n rooms the hunt goes up and down between the second room and the last but one.
        int[] path = {0, 1, 2, 2, 4, 6, 8, 10, 12, 14};
        for (int many = 1; many <= 9; many++) {
            Check.due("16 path of " + many, Make.family(many, Coppinghouse.PATH).hunt(), path[many]);
        }
        Check.due("16 star", Make.family(9, Coppinghouse.STAR).hunt(), 2);
        Check.due("16 all of 2", Make.family(2, Coppinghouse.ALL).hunt(), 2);
        Check.due("16 all of 3", Make.family(3, Coppinghouse.ALL).hunt(), -1);
        Check.due("16 ring", Make.family(9, Coppinghouse.RING).hunt(), -1);
        Coppinghouse bare = new Coppinghouse();
        bare.rooms(9);
        Check.due("16 no doors", bare.hunt(), 1);
        bare.shoot(3);
        Check.due("16 empty", bare.hunt(), 0);
    }

    private static void promise16HuntFollows() {
        Coppinghouse x = Make.family(5, Coppinghouse.PATH);
        x.shoot(1);
        Check.due("16 one less", x.hunt(), 5);
        x.shoot(0);
        Check.due("16 a bad shot", x.hunt(), 6);
        x.door(0, 4, true);
        Check.due("16 a ring", x.hunt(), -1);
        x.back();
        Check.due("16 back", x.hunt(), 6);
        x.back();
        Check.due("16 back once more", x.hunt(), 5);
        x.rooms(2);
        Check.due("16 rooms", x.hunt(), 1);
        x.family(Coppinghouse.PATH);
        Check.due("16 family", x.hunt(), 2);
    }

    private static void promise17HuntAnew() {
        int[] due = {-1, -1, -1, -1, 4};
        for (int most = 0; most <= 4; most++) {
            Check.due("17 path of 4, most " + most, Make.family(4, Coppinghouse.PATH).huntAnew(most), due[most]);
        }
        Coppinghouse x = Make.family(5, Coppinghouse.PATH);
        Check.due("17 greater than most", x.huntAnew(4), -1);
        x.shoot(1);
        Check.due("17 5 are left", x.huntAnew(4), -1);
        x.shoot(2);
        Check.due("17 4 are left", x.huntAnew(4), 4);
        Check.due("17 4 are left, most 3", x.huntAnew(3), -1);
        Check.argument("17 most -1", () -> x.huntAnew(-1));
        Check.argument("17 most 5", () -> x.huntAnew(5));
        Check.argument("17 most far", () -> x.huntAnew(Integer.MAX_VALUE));
        Check.argument("17 most low", () -> x.huntAnew(Integer.MIN_VALUE));
        Check.due("17 none", Make.family(3, Coppinghouse.RING).huntAnew(4), -1);
        Coppinghouse one = new Coppinghouse();
        Check.due("17 one room, most 0", one.huntAnew(0), -1);
        Check.due("17 one room, most 4", one.huntAnew(4), 1);
        one.shoot(0);
        Check.due("17 empty, most 0", one.huntAnew(0), 0);
        Check.due("17 empty, most 4", one.huntAnew(4), 0);
    }

    private static void promise18Aim() {
        Check.due("18 path of 5", Make.family(5, Coppinghouse.PATH).aim(), 1);
        Check.due("18 path of 2", Make.family(2, Coppinghouse.PATH).aim(), 0);
        Check.due("18 star", Make.family(9, Coppinghouse.STAR).aim(), 0);
        Check.due("18 ring", Make.family(5, Coppinghouse.RING).aim(), -1);
        Coppinghouse bare = new Coppinghouse();
        bare.rooms(3);
        Check.due("18 no doors", bare.aim(), 0);
        bare.shoot(0);
        Check.due("18 empty", bare.aim(), -1);
        Coppinghouse door = new Coppinghouse();
        door.rooms(3);
        door.door(1, 2, true);
        Check.due("18 room 0 has no door", door.aim(), 1);
        Check.due("18 shoot", door.shoot(1), 2);
        Check.due("18 in the set", door.aim(), 1);
        Coppinghouse star = Make.family(4, Coppinghouse.STAR);
        Check.due("18 the middle", star.shoot(1), 15);
        Check.due("18 the middle again", star.shoot(0), 1);
        Check.due("18 hunt", star.hunt(), 1);
        Check.due("18 only 0", star.aim(), 0);
        Check.due("18 into the ends", star.shoot(1), 14);
        // Wherever the shot goes, the rabbit is in 0 or nowhere then: one shot more is enough.
        Check.due("18 the lowest, outside of the set", star.aim(), 0);
    }

    private static void promise18AimHuntsDown() {
        for (int many = 1; many <= 9; many++) {
            Coppinghouse x = Make.family(many, Coppinghouse.PATH);
            for (int left = x.hunt(); left > 0; left--) {
                Check.due("18 path of " + many, x.hunt(), left);
                x.shoot(x.aim());
            }
            Check.due("18 the end of the path of " + many, x.rabbit(), 0);
            Check.due("18 none any more", x.aim(), -1);
        }
    }
}
