/** All that can be asked of an object, as one text. */
final class Whole {
    private Whole() {
    }

    /** The questions' answers; nothing is changed. */
    static String told(Coppinghouse x) {
        int many = countRooms(x);
        StringBuilder text = new StringBuilder();
        text.append("rooms ").append(many).append(" rabbit ").append(x.rabbit()).append(" next");
        for (int room = 0; room < many; room++) {
            text.append(' ').append(x.next(room));
        }
        text.append(" times");
        for (int robber = 0; robber < many; robber++) {
            text.append(' ').append(x.time(0, Coppinghouse.NONE, robber));
            text.append(' ').append(x.step(many - 1, 0, robber));
            text.append(' ').append(x.away(many - 1, 0, robber));
        }
        text.append(" doors ").append(x.doors()).append(" hunt ").append(x.hunt()).append(" aim ").append(x.aim());
        text.append(" catches ").append(x.catches(1)).append(" falls ").append(x.fallsApart());
        return text.append(" blue ").append(x.leastBlue()).append('\n').toString();
    }

    /** The same once more behind each deed that is taken back, until there is none; no deed is left. */
    static String unwound(Coppinghouse x) {
        StringBuilder text = new StringBuilder(told(x));
        String back = Check.told(x::back);
        for (int times = 0; times < 1000 && !back.startsWith("throws."); times++) {
            text.append("back ").append(back).append(" rabbit ").append(x.rabbit());
            text.append(" doors ").append(x.doors()).append(' ').append(x.next(0)).append('\n');
            back = Check.told(x::back);
        }
        return text.append(back).append('\n').append(told(x)).toString();
    }

    private static int countRooms(Coppinghouse x) {
        int many = 0;
        while (many < 32 && hasRoom(x, many)) {
            many++;
        }
        return many;
    }

    private static boolean hasRoom(Coppinghouse x, int room) {
        return !Check.told(() -> x.next(room)).startsWith("throws.");
    }
}
