/** Objects in a state that a test begins with. */
final class Make {
    private Make() {
    }

    static Coppinghouse rooms(int many) {
        Coppinghouse x = new Coppinghouse();
        x.rooms(many);
        return x;
    }

    static Coppinghouse family(int many, int family) {
        Coppinghouse x = rooms(many);
        x.family(family);
        return x;
    }

    /** The ends of the doors, two and two; each door is a deed. */
    static Coppinghouse doors(int many, int... ends) {
        Coppinghouse x = rooms(many);
        for (int at = 0; at < ends.length; at += 2) {
            x.door(ends[at], ends[at + 1], true);
        }
        return x;
    }

    /** 200 deeds, doors and shots in turn: as many as there can be. It is a path of 4 then, and the set is 0, 1 and 2. */
    static Coppinghouse fullOfDeeds() {
        Coppinghouse x = family(4, Coppinghouse.PATH);
        for (int pair = 0; pair < 100; pair++) {
            x.door(0, 3, pair % 2 == 0);
            x.shoot(2);
        }
        return x;
    }

    /** The set is empty behind one shot, as there are no doors. */
    static Coppinghouse emptySet(int many) {
        Coppinghouse x = rooms(many);
        x.shoot(0);
        return x;
    }
}
