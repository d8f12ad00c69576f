import java.util.Arrays;

/** The boundary cases of promises 1 to 4 and of their terms, a sentence at a time. */
public final class WeekBoundariesTest {
    public static void main(String[] args) {
        daysOutOfRange();
        periodsOutOfRange();
        eachWeekInRange();
        periodsOfDays();
        noSuchRoom();
        noSuchKindOfARoom();
        kindsAtFirst();
        roomOfAnItem();
        roomOfNoItem();
        noSuchClass();
        noSuchSecondClass();
        sameClasses();
        noSuchTeacher();
        noSuchKindOfALesson();
        noSuchShape();
        noSuchSubject();
        sixteenLessons();
        refusedLessonsHaveNoNumber();
        noSuchWhat();
        noSuchWho();
        noSuchPeriod();
        blockOfAnItem();
        takingBackWhereAnItemIs();
        blockOfNoItem();
        blockTwice();
        Check.end();
    }

    /** Asks a desk whether its week has so many days of so many periods. */
    private static void hasWeek(String call, TimetableDesk desk, int days, int perDay) {
        int periods = days * perDay;
        Check.passes(call + ": the last period", () -> desk.block(0, 0, periods - 1, true));
        Check.refusesArgument(call + ": a period too many", () -> desk.block(0, 0, periods, true));
        Check.answers(call + ": the last day", 0, () -> desk.absent(0, days - 1));
        Check.refusesArgument(call + ": a day too many", () -> desk.absent(0, days));
        Check.due(call + ": its page", (".".repeat(perDay) + "\n").repeat(days),
                Desks.text(desk, 0, 0, days * (perDay + 1)));
        Check.refusesIndex(call + ": a character too many", () -> desk.page(0, 0, days * (perDay + 1)));
    }

    private static void daysOutOfRange() {
        Check.sentence("1: days out of range: 5");
        for (int days : new int[] {0, -1, 6, 7, Desks.FAR, Desks.FAR_BELOW}) {
            hasWeek("days " + days + " of 2", new TimetableDesk(days, 2), 5, 2);
            hasWeek("days " + days + " of 6", new TimetableDesk(days, 6), 5, 6);
        }
    }

    private static void periodsOutOfRange() {
        Check.sentence("1: periods out of range: 6");
        for (int perDay : new int[] {0, -1, 7, 8, Desks.FAR, Desks.FAR_BELOW}) {
            hasWeek("2 days of " + perDay, new TimetableDesk(2, perDay), 2, 6);
            hasWeek("5 days of " + perDay, new TimetableDesk(5, perDay), 5, 6);
            hasWeek("0 days of " + perDay, new TimetableDesk(0, perDay), 5, 6);
        }
    }

    private static void eachWeekInRange() {
        Check.sentence("The week: D days (1 .. 5) of P periods (1 .. 6)");
        for (int days = 1; days <= 5; days++) {
            for (int perDay = 1; perDay <= 6; perDay++) {
                hasWeek(days + " days of " + perDay, new TimetableDesk(days, perDay), days, perDay);
            }
        }
    }

    private static void periodsOfDays() {
        Check.sentence("The week: period p is the (p % P)-th one (from 0 on) of day p / P");
        for (int days = 2; days <= 5; days++) {
            for (int perDay = 1; perDay <= 6; perDay++) {
                TimetableDesk desk = new TimetableDesk(days, perDay);
                Desks.plain(desk, 0, 0, 12);
                int end = perDay - 1;
                desk.place(0, 0, end);
                Check.answers("the first one of the next day is another day", 0, () -> desk.place(0, 1, end + 1));
                Check.answers("one item on the first day", 1, () -> desk.absent(0, 0));
                Check.answers("one item on the next day", 1, () -> desk.absent(0, 1));
                Check.due("end of one line, beginning of the next",
                        ".".repeat(end) + "a\na" + ".".repeat(end) + "\n", Desks.text(desk, 0, 0, 2 * perDay + 2));
            }
        }
    }

    private static void noSuchRoom() {
        Check.sentence("2: IllegalArgumentException: no such room");
        TimetableDesk desk = new TimetableDesk(1, 1);
        for (int room : new int[] {-1, 6, Desks.FAR, Desks.FAR_BELOW}) {
            Check.refusesArgument("room(" + room + ", 0)", () -> desk.room(room, 0));
        }
        Check.passes("room(0, 1)", () -> desk.room(0, 1));
        Check.passes("room(5, 1)", () -> desk.room(5, 1));
    }

    private static void noSuchKindOfARoom() {
        Check.sentence("2: IllegalArgumentException: no such kind");
        TimetableDesk desk = new TimetableDesk(1, 1);
        for (int kind : new int[] {-1, 3, Desks.FAR, Desks.FAR_BELOW}) {
            Check.refusesArgument("room(0, " + kind + ")", () -> desk.room(0, kind));
        }
        for (int kind = 0; kind < 3; kind++) {
            int each = kind;
            Check.passes("room(0, " + kind + ")", () -> desk.room(0, each));
        }
        Check.refusesArgument("room(0, 3) of a room in use", () -> {
            desk.lesson(0, -1, 0, 2, 11, 'a');
            desk.place(0, 0, 0);
            desk.room(0, 3);
        });
    }

    private static void kindsAtFirst() {
        Check.sentence("Rooms 0 .. 5 with a kind 0 .. 2 (0 at first)");
        TimetableDesk desk = new TimetableDesk(1, 1);
        desk.lesson(7, -1, 7, 1, 11, 'k');
        desk.lesson(7, -1, 7, 2, 11, 'k');
        for (int i = 0; i < 7; i++) {
            Desks.plain(desk, i, i, 11);
        }
        Check.answers("no room is of kind 1", 7, () -> desk.place(0, 0, 0));
        Check.answers("no room is of kind 2", 7, () -> desk.place(1, 0, 0));
        for (int i = 0; i < 6; i++) {
            int lesson = i + 2;
            Check.answers("there is a room of kind 0", 0, () -> desk.place(lesson, 0, 0));
            Check.answers("it is the next one", i, () -> desk.roomOf(lesson, 0));
        }
        Check.answers("there is no seventh room", 7, () -> desk.place(8, 0, 0));
    }

    private static void roomOfAnItem() {
        Check.sentence("2: IllegalStateException: an item has the room");
        TimetableDesk desk = new TimetableDesk(2, 3);
        Desks.leaveRooms(desk, 1);
        Desks.plain(desk, 0, 0, 21);
        desk.place(0, 0, 4);
        refuseRoomInUse("placed at the week's end", desk);
        desk.drop(0, 0);
        desk.undo();
        refuseRoomInUse("brought back", desk);
        desk.drop(0, 0);
        desk.fill(1);
        refuseRoomInUse("filled in", desk);
        desk.drop(0, 0);
        desk.place(0, 0, 1);
        desk.improve(1);
        Check.answers("improved", 0, () -> desk.period(0, 0));
        refuseRoomInUse("improved", desk);
    }

    private static void refuseRoomInUse(String how, TimetableDesk desk) {
        for (int kind = 0; kind < 3; kind++) {
            int each = kind;
            Check.refusesState(how + ": room(0, " + kind + ")", () -> desk.room(0, each));
        }
        Check.answers(how + ": it still has the room", 0, () -> desk.roomOf(0, 0));
    }

    private static void roomOfNoItem() {
        Check.sentence("2: a room that no item has any more gets its kind");
        TimetableDesk desk = new TimetableDesk(1, 2);
        Desks.plain(desk, 0, 0, 11);
        desk.place(0, 0, 1);
        Check.passes("another room is in use", () -> desk.room(1, 1));
        desk.drop(0, 0);
        Check.passes("dropped", () -> desk.room(0, 0));
        desk.place(0, 0, 0);
        desk.undo();
        Check.passes("undone", () -> desk.room(0, 1));
        Check.answers("a fill that is undone", 1, () -> desk.fill(1));
        desk.undo();
        Check.passes("undone", () -> desk.room(2, 1));
        Desks.plain(desk, 0, 0, 12);
        Check.answers("a fill that is impossible", 0, () -> desk.fill(100));
        Check.answers("a budget that is not enough", 2, () -> desk.fill(1));
        for (int room = 0; room < 6; room++) {
            int each = room;
            Check.passes("all is as before: room " + room, () -> desk.room(each, 2));
        }
        Check.answers("no room of kind 0 is left", 7, () -> desk.place(0, 0, 0));
    }

    /** A lesson that is all right but for what is put into one of its places. */
    private static int[] lessonBut(int place, int value) {
        int[] lesson = {3, 4, 3, 1, 11, 65};
        lesson[place] = value;
        return lesson;
    }

    private static int ask(TimetableDesk desk, int[] lesson) {
        return desk.lesson(lesson[0], lesson[1], lesson[2], lesson[3], lesson[4], lesson[5]);
    }

    private static void refuseInLesson(int place, int... values) {
        for (int value : values) {
            int[] lesson = lessonBut(place, value);
            Check.refusesArgument("lesson" + Arrays.toString(lesson), () -> ask(new TimetableDesk(1, 1), lesson));
        }
    }

    private static void takeInLesson(int place, int... values) {
        for (int value : values) {
            int[] lesson = lessonBut(place, value);
            Check.answers("lesson" + Arrays.toString(lesson), 0, () -> ask(new TimetableDesk(1, 1), lesson));
        }
    }

    private static void noSuchClass() {
        Check.sentence("3: IllegalArgumentException: first is no class");
        refuseInLesson(0, -1, 8, -2, Desks.FAR, Desks.FAR_BELOW);
        takeInLesson(0, 0, 7);
    }

    private static void noSuchSecondClass() {
        Check.sentence("3: second -1 for none; IllegalArgumentException: it is neither that nor a class");
        refuseInLesson(1, -2, 8, Desks.FAR, Desks.FAR_BELOW);
        takeInLesson(1, -1, 0, 7);
    }

    private static void sameClasses() {
        Check.sentence("3: IllegalArgumentException: both classes are the same");
        for (int who = 0; who < 8; who++) {
            int each = who;
            TimetableDesk desk = new TimetableDesk(1, 1);
            Check.refusesArgument("twice class " + who, () -> desk.lesson(each, each, 0, 0, 11, 65));
            Check.answers("and its neighbour", 0, () -> desk.lesson(each, (each + 1) % 8, 0, 0, 11, 65));
        }
        Check.refusesArgument("twice none", () -> new TimetableDesk(1, 1).lesson(-1, -1, 0, 0, 11, 65));
    }

    private static void noSuchTeacher() {
        Check.sentence("3: IllegalArgumentException: no such teacher");
        refuseInLesson(2, -1, 8, Desks.FAR, Desks.FAR_BELOW);
        takeInLesson(2, 0, 7);
    }

    private static void noSuchKindOfALesson() {
        Check.sentence("3: IllegalArgumentException: no such kind");
        refuseInLesson(3, -1, 3, Desks.FAR, Desks.FAR_BELOW);
        takeInLesson(3, 0, 1, 2);
    }

    private static void noSuchShape() {
        Check.sentence("3: shape is 10 * length (1, 2) + times (1 .. 4)");
        for (int shape = -30; shape <= 130; shape++) {
            if (shape >= 11 && shape <= 14 || shape >= 21 && shape <= 24) {
                takeInLesson(4, shape);
            } else {
                refuseInLesson(4, shape);
            }
        }
        refuseInLesson(4, Desks.FAR, Desks.FAR_BELOW, 1011, -2147483637);
        for (int times = 1; times <= 4; times++) {
            int behind = times;
            for (int length = 1; length <= 2; length++) {
                TimetableDesk desk = new TimetableDesk(4, 2);
                Desks.plain(desk, 0, 0, 10 * length + times);
                Check.answers("its last item", -1, () -> desk.period(0, behind - 1));
                Check.refusesArgument("an item too many", () -> desk.period(0, behind));
                Check.answers("one or two periods do not fit", length - 1, () -> desk.place(0, 0, 1));
            }
        }
    }

    private static void noSuchSubject() {
        Check.sentence("3: subject 33 .. 126");
        refuseInLesson(5, 32, 127, 0, -1, 33 + 256, 10, Desks.FAR, Desks.FAR_BELOW);
        takeInLesson(5, 33, 126);
    }

    private static TimetableDesk deskOfLessons(int count) {
        TimetableDesk desk = new TimetableDesk(1, 1);
        for (int i = 0; i < count; i++) {
            Desks.plain(desk, i % 8, i % 8, 11);
        }
        return desk;
    }

    private static void sixteenLessons() {
        Check.sentence("3: IllegalStateException: there are 16");
        TimetableDesk desk = deskOfLessons(15);
        Check.answers("the sixteenth lesson", 15, () -> desk.lesson(1, 2, 3, 1, 24, 'z'));
        Check.refusesState("the seventeenth", () -> desk.lesson(1, 2, 3, 1, 24, 'z'));
        Check.refusesState("and once more", () -> Desks.plain(desk, 0, 0, 11));
        Check.refusesArgument("there is no lesson 16", () -> desk.period(16, 0));
        Check.answers("lesson 15 has four items", -1, () -> desk.period(15, 3));
        Check.answers("lesson 0 has one", -1, () -> desk.period(0, 0));
        Check.refusesArgument("and no other", () -> desk.period(0, 1));
        Check.refusesArgument("a wrong lesson too many", () -> desk.lesson(1, 1, 3, 1, 24, 'z'));
    }

    private static void refusedLessonsHaveNoNumber() {
        Check.sentence("3: one more lesson: its number");
        TimetableDesk desk = new TimetableDesk(1, 1);
        for (int number = 0; number < 16; number++) {
            Check.refusesArgument("a wrong one", () -> desk.lesson(1, -1, 0, 0, 11, 127));
            Check.answers("the next one", number, () -> Desks.plain(desk, 0, 0, 11));
        }
    }

    private static void refuseBlock(int what, int who, int period) {
        String call = "block(" + what + ", " + who + ", " + period;
        TimetableDesk desk = new TimetableDesk(2, 3);
        Check.refusesArgument(call + ", true)", () -> desk.block(what, who, period, true));
        Check.refusesArgument(call + ", false)", () -> desk.block(what, who, period, false));
    }

    private static void takeBlock(int what, int who, int period) {
        String call = "block(" + what + ", " + who + ", " + period;
        TimetableDesk desk = new TimetableDesk(2, 3);
        Check.passes(call + ", true)", () -> desk.block(what, who, period, true));
        Check.passes(call + ", false)", () -> desk.block(what, who, period, false));
    }

    private static void noSuchWhat() {
        Check.sentence("4: IllegalArgumentException: no such what");
        for (int what : new int[] {-1, 3, Desks.FAR, Desks.FAR_BELOW}) {
            refuseBlock(what, 0, 0);
        }
        for (int what = 0; what < 3; what++) {
            takeBlock(what, 0, 0);
        }
    }

    private static void noSuchWho() {
        Check.sentence("4: IllegalArgumentException: no such who");
        int[] last = {7, 7, 5};
        for (int what = 0; what < 3; what++) {
            for (int who : new int[] {-1, last[what] + 1, Desks.FAR, Desks.FAR_BELOW}) {
                refuseBlock(what, who, 0);
            }
            takeBlock(what, last[what], 0);
        }
    }

    private static void noSuchPeriod() {
        Check.sentence("4: IllegalArgumentException: no such period");
        for (int what = 0; what < 3; what++) {
            for (int period : new int[] {-1, 6, 32, 64, Desks.FAR, Desks.FAR_BELOW}) {
                refuseBlock(what, 0, period);
            }
            takeBlock(what, 0, 5);
        }
    }

    private static void blockOfAnItem() {
        Check.sentence("4: IllegalStateException: it is to be blocked, and has an item there");
        int[][] users = {{0, 6}, {0, 7}, {1, 7}, {2, 0}};
        for (int[] user : users) {
            String call = "block" + Arrays.toString(user);
            TimetableDesk desk = longJoinedItem();
            Check.refusesState(call + " in its first period", () -> desk.block(user[0], user[1], 28, true));
            Check.refusesState(call + " in its second period", () -> desk.block(user[0], user[1], 29, true));
            Check.passes(call + " before it", () -> desk.block(user[0], user[1], 27, true));
            desk.drop(0, 0);
            Check.answers("a refused block does not block", 0, () -> desk.place(0, 0, 28));
            Check.answers("in none of its rooms", 0, () -> desk.roomOf(0, 0));
            TimetableDesk early = longJoinedItem();
            early.drop(0, 0);
            early.place(0, 0, 0);
            Check.refusesState(call + " in period 0", () -> early.block(user[0], user[1], 0, true));
            Check.refusesState(call + " in period 1", () -> early.block(user[0], user[1], 1, true));
            Check.passes(call + " behind it", () -> early.block(user[0], user[1], 2, true));
        }
    }

    /** An item of two periods, at the end of the week, of classes 6 and 7 and teacher 7. */
    private static TimetableDesk longJoinedItem() {
        TimetableDesk desk = new TimetableDesk(5, 6);
        desk.lesson(6, 7, 7, 0, 21, 'j');
        desk.place(0, 0, 28);
        return desk;
    }

    private static void takingBackWhereAnItemIs() {
        Check.sentence("4: or takes that back");
        TimetableDesk desk = longJoinedItem();
        int[][] users = {{0, 6}, {0, 7}, {1, 7}, {2, 0}};
        for (int[] user : users) {
            Check.passes("no block is taken back where it has an item",
                    () -> desk.block(user[0], user[1], 29, false));
        }
        Check.answers("the item stays", 28, () -> desk.period(0, 0));
        Check.refusesState("and is still there", () -> desk.block(0, 7, 29, true));
        desk.drop(0, 0);
        for (int[] user : users) {
            desk.block(user[0], user[1], 29, true);
        }
        desk.undo();
        for (int[] user : users) {
            Check.passes("a block under an item that came back", () -> desk.block(user[0], user[1], 29, false));
            Check.refusesState("can't be set again", () -> desk.block(user[0], user[1], 29, true));
        }
        desk.drop(0, 0);
        Check.answers("none of them blocks any more", 0, () -> desk.place(0, 0, 28));
        Check.answers("nor the room", 0, () -> desk.roomOf(0, 0));
    }

    private static void blockOfNoItem() {
        Check.sentence("4: blocks a class, teacher or room that has no item there");
        TimetableDesk desk = longJoinedItem();
        for (int who = 0; who < 6; who++) {
            int other = who;
            Check.passes("another class", () -> desk.block(0, other, 29, true));
            Check.passes("another teacher", () -> desk.block(1, other, 29, true));
            Check.passes("another room", () -> desk.block(2, other == 0 ? 5 : other, 29, true));
        }
        desk.drop(0, 0);
        Check.answers("none of them counts here", 0, () -> desk.place(0, 0, 28));
        desk.drop(0, 0);
        Check.passes("its class, now without an item", () -> desk.block(0, 6, 29, true));
        Check.answers("counts", 4, () -> desk.place(0, 0, 28));
    }

    private static void blockTwice() {
        Check.sentence("4: blocks, or takes that back, however often it was done before");
        TimetableDesk desk = new TimetableDesk(1, 2);
        Desks.plain(desk, 0, 0, 11);
        Check.passes("taken back before it was there", () -> desk.block(1, 0, 0, false));
        Check.passes("once", () -> desk.block(1, 0, 0, true));
        Check.passes("twice", () -> desk.block(1, 0, 0, true));
        Check.answers("blocked", 2, () -> desk.place(0, 0, 0));
        Check.passes("taken back once", () -> desk.block(1, 0, 0, false));
        Check.passes("taken back twice", () -> desk.block(1, 0, 0, false));
        Check.passes("the other period", () -> desk.block(1, 0, 1, true));
        Check.answers("not blocked", 0, () -> desk.place(0, 0, 0));
    }
}
