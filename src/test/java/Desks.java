/** What several tests do with a desk. */
final class Desks {
    static final int FAR = Integer.MAX_VALUE;
    static final int FAR_BELOW = Integer.MIN_VALUE;

    private Desks() {
    }

    /** A lesson of one class in a room of kind 0, where its subject does not matter. */
    static int plain(TimetableDesk desk, int who, int teacher, int shape) {
        return desk.lesson(who, -1, teacher, 0, shape, 'a');
    }

    /** The first characters of a page. */
    static String text(TimetableDesk desk, int what, int who, int length) {
        StringBuilder text = new StringBuilder();
        for (int i = 0; i < length; i++) {
            text.append((char) desk.page(what, who, i));
        }
        return text.toString();
    }

    /** Leaves rooms 0 .. count - 1 of kind 0; the others get kind 2. */
    static void leaveRooms(TimetableDesk desk, int count) {
        for (int room = count; room < 6; room++) {
            desk.room(room, 2);
        }
    }

    /** Blocks all periods but those that are told. */
    static void openOnly(TimetableDesk desk, int what, int who, int periods, int... open) {
        for (int period = 0; period < periods; period++) {
            desk.block(what, who, period, true);
        }
        for (int period : open) {
            desk.block(what, who, period, false);
        }
    }
}
