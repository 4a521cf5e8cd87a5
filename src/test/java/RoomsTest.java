/** Promises 1 to 8: a new object, rooms, families, doors, deeds that are done and taken back. */
public final class RoomsTest {
    private static final int FAR = Integer.MAX_VALUE;
    private static final int LOW = Integer.MIN_VALUE;

    private RoomsTest() {
    }

    public static void main(String[] args) {
        promise1NewObject();
        promise2Rooms();
        promise3Family();
        promise4Door();
        promise4DoorsAndDeeds();
        promise5Shoot();
        promise6Back();
        promise6BackOfManyDeeds();
        promise6Forgets();
        promise7Doors();
        promise8Next();
        Check.end("RoomsTest");
    }

    private static void promise1NewObject() {
        Coppinghouse x = new Coppinghouse();
        Check.due("1 doors", x.doors(), 0);
        Check.due("1 next", x.next(0), 0);
        Check.index("1 next 1", () -> x.next(1));
        Check.due("1 rabbit", x.rabbit(), 1);
        Check.state("1 no deed", x::back);
        Check.due("1 hunt", x.hunt(), 1);
        Check.due("1 aim", x.aim(), 0);
        Check.due("1 time", x.time(0, -1, 0), 0);
        Check.due("1 time of two", x.time(0, 0, 0), 0);
        Check.due("1 step", x.step(0, -1, 0), -1);
        Check.due("1 away", x.away(0, 0, 0), -1);
        Check.due("1 catches", x.catches(1), true);
        Check.due("1 fallsApart", x.fallsApart(), true);
        Check.due("1 leastBlue", x.leastBlue(), 1);
        Check.due("1 forced", x.forced(1), 1);
        Check.due("1 forced nothing", x.forced(0), 0);
        Check.due("1 rooms", x.rooms(3), 1);
    }

    private static void promise2Rooms() {
        Coppinghouse x = Make.family(5, Coppinghouse.ALL);
        Check.due("2 rooms 9", x.rooms(9), 5);
        Check.due("2 no doors", x.doors(), 0);
        Check.due("2 next 8", x.next(8), 0);
        Check.due("2 rabbit", x.rabbit(), 511);
        Check.argument("2 rooms 0", () -> x.rooms(0));
        Check.argument("2 rooms 10", () -> x.rooms(10));
        Check.argument("2 rooms -1", () -> x.rooms(-1));
        Check.argument("2 rooms far", () -> x.rooms(FAR));
        Check.argument("2 rooms low", () -> x.rooms(LOW));
        x.door(0, 8, true);
        Check.argument("2 rooms 10 with a door", () -> x.rooms(10));
        Check.due("2 nothing changed", x.next(8), 1);
        Check.due("2 rooms 1", x.rooms(1), 9);
        Check.due("2 one room's doors", x.doors(), 0);
        Check.due("2 rooms 9 once more", x.rooms(9), 1);
        Check.due("2 no door of before", x.doors(), 0);
        Check.due("2 next 0", x.next(0), 0);
    }

    private static void promise3Family() {
        int[] sizes = {1, 2, 3, 4, 9};
        int[][] due = {{0, 1, 2, 3, 8}, {-1, -1, 3, 4, 9}, {0, 1, 2, 3, 8}, {0, 1, 3, 6, 36}};
        for (int at = 0; at < sizes.length; at++) {
            for (int family = Coppinghouse.PATH; family <= Coppinghouse.ALL; family++) {
                Coppinghouse x = Make.rooms(sizes[at]);
                int which = family;
                String name = "3 family " + family + " of " + sizes[at];
                if (due[family][at] == -1) {
                    Check.state(name, () -> x.family(which));
                } else {
                    Check.due(name, x.family(family), due[family][at]);
                    Check.due(name + " doors", x.doors(), due[family][at]);
                }
            }
        }
        nextSets("3 path", Make.family(5, Coppinghouse.PATH), 2, 5, 10, 20, 8);
        nextSets("3 ring", Make.family(5, Coppinghouse.RING), 18, 5, 10, 20, 9);
        nextSets("3 star", Make.family(5, Coppinghouse.STAR), 30, 1, 1, 1, 1);
        nextSets("3 all", Make.family(5, Coppinghouse.ALL), 30, 29, 27, 23, 15);
        nextSets("3 ring of 3", Make.family(3, Coppinghouse.RING), 6, 5, 3);

        Coppinghouse x = Make.family(2, Coppinghouse.PATH);
        Check.argument("3 family -1", () -> x.family(-1));
        Check.argument("3 family 4", () -> x.family(4));
        Check.argument("3 family far", () -> x.family(FAR));
        Check.state("3 ring of 2", () -> x.family(Coppinghouse.RING));
        nextSets("3 nothing changed", x, 2, 1);

        Coppinghouse y = Make.family(4, Coppinghouse.ALL);
        y.family(Coppinghouse.PATH);
        nextSets("3 no doors of before", y, 2, 5, 10, 4);
    }

    private static void nextSets(String name, Coppinghouse x, int... due) {
        for (int room = 0; room < due.length; room++) {
            Check.due(name + " next " + room, x.next(room), due[room]);
        }
        Check.index(name + " next " + due.length, () -> x.next(due.length));
    }

    private static void promise4Door() {
        Coppinghouse x = Make.rooms(4);
        Check.due("4 made", x.door(1, 3, true), false);
        nextSets("4 made", x, 0, 8, 0, 2);
        Check.due("4 told the other way", x.door(3, 1, true), true);
        Check.due("4 closed the other way", x.door(3, 1, false), true);
        Check.due("4 told as it was", x.door(1, 3, false), false);
        nextSets("4 closed", x, 0, 0, 0, 0);
        Check.index("4 room", () -> x.door(4, 0, true));
        Check.index("4 other", () -> x.door(0, 4, true));
        Check.index("4 room -1", () -> x.door(-1, 0, true));
        Check.index("4 other -1", () -> x.door(0, -1, true));
        Check.index("4 the same, and none", () -> x.door(4, 4, true));
        Check.index("4 far", () -> x.door(FAR, LOW, false));
        Check.argument("4 the same", () -> x.door(2, 2, true));
        Check.argument("4 the same, no door", () -> x.door(0, 0, false));
        Check.due("4 the deeds", x.back(), 1);
        Check.due("4 doors", x.doors(), 1);
        Check.due("4 rabbit", x.rabbit(), 15);
    }

    private static void promise4DoorsAndDeeds() {
        Coppinghouse x = Make.rooms(9);
        for (int deed = 0; deed < 200; deed++) {
            Check.due("4 deed " + deed, x.door(7, 8, deed % 2 == 0), deed % 2 != 0);
        }
        Check.state("4 deed 201", () -> x.door(0, 1, true));
        Check.due("4 no deed", x.door(0, 1, false), false);
        Check.argument("4 the same ahead of the deeds", () -> x.door(1, 1, true));
        Check.index("4 no room ahead of the deeds", () -> x.door(1, 9, true));
        Check.due("4 nothing changed", x.doors(), 0);
        Check.due("4 back", x.back(), 199);
        Check.due("4 place for one more", x.door(0, 1, true), false);
        Check.state("4 and no more", () -> x.door(0, 1, false));
    }

    private static void promise5Shoot() {
        Coppinghouse x = Make.family(5, Coppinghouse.PATH);
        Check.due("5 shoot 1", x.shoot(1), 30);
        Check.due("5 rabbit", x.rabbit(), 30);
        Check.due("5 outside", x.shoot(0), 31);
        Check.due("5 inside", x.shoot(1), 30);
        Check.index("5 shoot 5", () -> x.shoot(5));
        Check.index("5 shoot -1", () -> x.shoot(-1));
        Check.index("5 shoot far", () -> x.shoot(FAR));
        Check.index("5 shoot low", () -> x.shoot(LOW));
        Check.due("5 told as it was", x.door(0, 1, true), true);
        Check.due("5 the set stays", x.rabbit(), 30);
        x.door(0, 1, false);
        Check.due("5 all rooms again", x.rabbit(), 31);
        Check.due("5 nowhere from 0", x.shoot(2), 28);

        Coppinghouse y = Make.rooms(3);
        Check.due("5 comes nowhere", y.shoot(0), 0);
        Check.state("5 the set is empty", () -> y.shoot(0));
        Check.index("5 no room ahead of the empty set", () -> y.shoot(3));
        Check.due("5 one deed", y.back(), 0);
        Check.due("5 the set is back", y.rabbit(), 7);

        Coppinghouse z = Make.family(9, Coppinghouse.ALL);
        for (int deed = 0; deed < 200; deed++) {
            Check.due("5 deed " + deed, z.shoot(deed % 9), 511);
        }
        Check.state("5 deed 201", () -> z.shoot(0));
        Check.index("5 no room ahead of the deeds", () -> z.shoot(9));
        Check.due("5 nothing changed", z.rabbit(), 511);
        Check.due("5 back", z.back(), 199);
    }

    private static void promise6Back() {
        Coppinghouse x = Make.family(4, Coppinghouse.PATH);
        Check.state("6 none", x::back);
        Check.due("6 shoot", x.shoot(1), 14);
        Check.due("6 shoot", x.shoot(2), 5);
        Check.due("6 door", x.door(0, 3, true), false);
        Check.due("6 all rooms", x.rabbit(), 15);
        Check.due("6 shoot", x.shoot(0), 15);
        Check.due("6 close", x.door(1, 2, false), true);
        Check.due("6 back to the door", x.back(), 4);
        nextSets("6 the door", x, 10, 5, 10, 5);
        Check.due("6 back to the ring", x.back(), 3);
        Check.due("6 the ring's set", x.rabbit(), 15);
        Check.due("6 back to the path", x.back(), 2);
        Check.due("6 the path's set", x.rabbit(), 5);
        nextSets("6 the path", x, 2, 5, 10, 4);
        Check.due("6 back", x.back(), 1);
        Check.due("6 the set", x.rabbit(), 14);
        Check.due("6 back", x.back(), 0);
        Check.due("6 the set", x.rabbit(), 15);
        Check.state("6 none left", x::back);
        Check.due("6 nothing changed", x.doors(), 3);
    }

    private static void promise6BackOfManyDeeds() {
        Coppinghouse x = Make.rooms(9);
        int[] doors = new int[201];
        for (int deed = 0; deed < 200; deed++) {
            doors[deed] = x.doors();
            x.door(deed % 9, (deed + 1 + deed % 4) % 9, (deed / 36) % 2 == 0);
            if (x.doors() == doors[deed]) {
                x.shoot(deed % 9);
            }
        }
        for (int left = 199; left >= 0; left--) {
            Check.due("6 back to " + left, x.back(), left);
            Check.due("6 doors at " + left, x.doors(), doors[left]);
        }
        Check.state("6 none left of 200", x::back);
    }

    private static void promise6Forgets() {
        Coppinghouse x = Make.family(4, Coppinghouse.PATH);
        x.shoot(1);
        x.door(0, 2, true);
        x.family(Coppinghouse.STAR);
        Check.state("6 a family forgets", x::back);
        x.shoot(0);
        Check.due("6 the set", x.rabbit(), 1);
        Check.argument("6 no family", () -> x.family(9));
        Check.argument("6 no rooms", () -> x.rooms(99));
        Check.due("6 nothing changed", x.rabbit(), 1);
        x.family(Coppinghouse.STAR);
        Check.due("6 the family's set", x.rabbit(), 15);
        x.shoot(0);
        Check.due("6 rooms", x.rooms(4), 4);
        Check.due("6 the rooms' set", x.rabbit(), 15);
        Check.state("6 rooms forget", x::back);
        x.rooms(2);
        x.door(0, 1, true);
        Check.state("6 no ring", () -> x.family(Coppinghouse.RING));
        Check.due("6 the deed is kept", x.back(), 0);
    }

    private static void promise7Doors() {
        Coppinghouse x = Make.family(9, Coppinghouse.ALL);
        Check.due("7 all", x.doors(), 36);
        x.door(8, 0, false);
        x.door(3, 4, false);
        Check.due("7 two less", x.doors(), 34);
        x.back();
        Check.due("7 one back", x.doors(), 35);
        x.shoot(0);
        Check.due("7 a shot closes none", x.doors(), 35);
        x.rooms(2);
        Check.due("7 none", x.doors(), 0);
    }

    private static void promise8Next() {
        Coppinghouse x = Make.family(9, Coppinghouse.RING);
        Check.due("8 the first", x.next(0), 258);
        Check.due("8 the last", x.next(8), 129);
        Check.index("8 next 9", () -> x.next(9));
        Check.index("8 next -1", () -> x.next(-1));
        Check.index("8 next far", () -> x.next(FAR));
        Check.index("8 next low", () -> x.next(LOW));
        x.door(0, 4, true);
        Check.due("8 one more", x.next(0), 274);
        Check.due("8 both ways", x.next(4), 41);
        x.rooms(4);
        Check.index("8 fewer rooms", () -> x.next(4));
    }
}
