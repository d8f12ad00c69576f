import java.util.Arrays;

/** The document's promises one by one: ordinary inputs, the edges it names, wrong inputs. */
public final class PromisesTest {
    public static void main(String[] args) {
        newObject();
        room();
        lesson();
        block();
        blockOfLongAndJoined();
        place();
        placeByEachRule();
        drop();
        fill();
        fillGoesBack();
        fillAndBudget();
        fillOfPartsOfALesson();
        fullDesk();
        tries();
        period();
        roomOf();
        penalty();
        improve();
        improveKeepsItsRoom();
        improveJoined();
        improveForATeacher();
        improveRounds();
        absent();
        substitute();
        substituteOfNobody();
        undo();
        undoKeepsTwenty();
        undoThroughLaterBlocks();
        page();
        Check.end();
    }

    private static void newObject() {
        int[][] weeks = {
            {1, 1, 1, 1}, {5, 6, 5, 6}, {2, 4, 2, 4}, {0, 3, 5, 3}, {6, 3, 5, 3}, {3, 0, 3, 6}, {3, 7, 3, 6},
            {-1, -1, 5, 6}, {Desks.FAR, Desks.FAR_BELOW, 5, 6}};
        for (int[] w : weeks) {
            String call = "TimetableDesk(" + w[0] + ", " + w[1] + ")";
            TimetableDesk desk = new TimetableDesk(w[0], w[1]);
            int characters = w[2] * (w[3] + 1);
            Check.answers(call + " last line end", 10, () -> desk.page(0, 0, characters - 1));
            Check.answers(call + " first line end", 10, () -> desk.page(0, 0, w[3]));
            Check.refusesIndex(call + " behind its page", () -> desk.page(0, 0, characters));
            Check.passes(call + " last period", () -> desk.block(0, 0, w[2] * w[3] - 1, true));
            Check.refusesArgument(call + " behind its week", () -> desk.block(0, 0, w[2] * w[3], true));
            Check.answers(call + " last day", 0, () -> desk.absent(0, w[2] - 1));
            Check.refusesArgument(call + " behind its days", () -> desk.absent(0, w[2]));
            Check.answers(call + " tries", 0, desk::tries);
            Check.answers(call + " penalty", 0, desk::penalty);
            Check.refusesState(call + " undo", desk::undo);
            Check.refusesIndex(call + " substitute", () -> desk.substitute(0));
            Check.refusesArgument(call + " period", () -> desk.period(0, 0));
        }
    }

    private static void room() {
        TimetableDesk desk = new TimetableDesk(1, 4);
        int[][] wrong = {{-1, 0}, {6, 0}, {0, -1}, {0, 3}, {Desks.FAR, 0}, {0, Desks.FAR_BELOW}};
        for (int[] w : wrong) {
            Check.refusesArgument("room(" + w[0] + ", " + w[1] + ")", () -> desk.room(w[0], w[1]));
        }
        desk.lesson(0, -1, 0, 2, 11, 'a');
        Check.answers("place without a room of kind 2", 7, () -> desk.place(0, 0, 1));
        Check.passes("room(4, 2)", () -> desk.room(4, 2));
        Check.answers("place with a room of kind 2", 0, () -> desk.place(0, 0, 1));
        Check.answers("roomOf", 4, () -> desk.roomOf(0, 0));
        Check.refusesState("room(4, 1) in use", () -> desk.room(4, 1));
        Check.refusesState("room(4, 2) in use, the same kind", () -> desk.room(4, 2));
        Check.refusesArgument("room(4, 3) in use", () -> desk.room(4, 3));
        Check.passes("room(3, 2) beside it", () -> desk.room(3, 2));
        Check.answers("roomOf stays", 4, () -> desk.roomOf(0, 0));
        desk.drop(0, 0);
        Check.passes("room(4, 0) free again", () -> desk.room(4, 0));
        Check.answers("place again", 0, () -> desk.place(0, 0, 1));
        Check.answers("roomOf the lower one", 3, () -> desk.roomOf(0, 0));
    }

    private static void lesson() {
        TimetableDesk desk = new TimetableDesk(5, 6);
        int[][] wrong = {
            {-1, -1, 0, 0, 11, 65}, {8, -1, 0, 0, 11, 65}, {0, -2, 0, 0, 11, 65}, {0, 8, 0, 0, 11, 65},
            {3, 3, 0, 0, 11, 65}, {0, -1, -1, 0, 11, 65}, {0, -1, 8, 0, 11, 65}, {0, -1, 0, -1, 11, 65},
            {0, -1, 0, 3, 11, 65}, {0, -1, 0, 0, 10, 65}, {0, -1, 0, 0, 15, 65}, {0, -1, 0, 0, 20, 65},
            {0, -1, 0, 0, 25, 65}, {0, -1, 0, 0, 31, 65}, {0, -1, 0, 0, 1, 65}, {0, -1, 0, 0, 111, 65},
            {0, -1, 0, 0, -11, 65}, {0, -1, 0, 0, 11, 32}, {0, -1, 0, 0, 11, 127}, {0, -1, 0, 0, Desks.FAR, 65},
            {Desks.FAR, -1, 0, 0, 11, 65}, {0, Desks.FAR_BELOW, 0, 0, 11, 65}, {0, -1, 0, 0, Desks.FAR_BELOW, 65}};
        refuseLessons(desk, wrong);
        int[] shapes = {11, 12, 13, 14, 21, 22, 23, 24};
        for (int i = 0; i < 16; i++) {
            int number = i;
            int shape = shapes[i % 8];
            Check.answers("lesson number " + i, i,
                    () -> desk.lesson(number % 8, 7 - number % 8, number % 8, number % 3, shape,
                            number % 2 == 0 ? 33 : 126));
            Check.answers("its last item", -1, () -> desk.period(number, shape % 10 - 1));
            Check.refusesArgument("behind its last item", () -> desk.period(number, shape % 10));
        }
        Check.refusesState("a lesson too many", () -> desk.lesson(0, -1, 0, 0, 11, 65));
        refuseLessons(desk, wrong);
    }

    private static void refuseLessons(TimetableDesk desk, int[][] wrong) {
        for (int[] w : wrong) {
            Check.refusesArgument("lesson" + Arrays.toString(w),
                    () -> desk.lesson(w[0], w[1], w[2], w[3], w[4], w[5]));
        }
    }

    private static void block() {
        TimetableDesk desk = new TimetableDesk(2, 3);
        int[][] wrong = {
            {-1, 0, 0}, {3, 0, 0}, {0, -1, 0}, {0, 8, 0}, {1, -1, 0}, {1, 8, 0}, {2, -1, 0}, {2, 6, 0},
            {0, 0, -1}, {0, 0, 6}, {Desks.FAR, 0, 0}, {0, Desks.FAR, 0}, {0, 0, Desks.FAR_BELOW}};
        for (int[] w : wrong) {
            String call = "block" + Arrays.toString(w);
            Check.refusesArgument(call + " on", () -> desk.block(w[0], w[1], w[2], true));
            Check.refusesArgument(call + " off", () -> desk.block(w[0], w[1], w[2], false));
        }
        Desks.plain(desk, 7, 7, 11);
        for (int what = 0; what < 3; what++) {
            int kind = what;
            int who = what == 2 ? 0 : 7;
            Check.passes("block twice", () -> {
                desk.block(kind, who, 5, true);
                desk.block(kind, who, 5, true);
            });
            Check.passes("take back what is no block", () -> desk.block(kind, who, 4, false));
        }
        Check.answers("teacher blocked", 2, () -> desk.place(0, 0, 5));
        desk.block(1, 7, 5, false);
        Check.answers("class blocked", 4, () -> desk.place(0, 0, 5));
        desk.block(0, 7, 5, false);
        desk.block(2, 1, 5, true);
        desk.block(2, 3, 5, true);
        Check.answers("rooms 0, 1 and 3 are blocked", 0, () -> desk.place(0, 0, 5));
        Check.answers("so it has room 2", 2, () -> desk.roomOf(0, 0));
        Check.refusesState("room 2 has an item", () -> desk.block(2, 2, 5, true));
        Check.passes("room 4 has none", () -> desk.block(2, 4, 5, true));
    }

    private static void blockOfLongAndJoined() {
        TimetableDesk desk = new TimetableDesk(2, 3);
        desk.lesson(1, 2, 3, 0, 21, 'x');
        desk.place(0, 0, 4);
        int[][] users = {{0, 1}, {0, 2}, {1, 3}, {2, 0}};
        for (int[] u : users) {
            String who = "block(" + u[0] + ", " + u[1] + ", ";
            Check.passes(who + "3) before it", () -> desk.block(u[0], u[1], 3, true));
            Check.refusesState(who + "4) its first", () -> desk.block(u[0], u[1], 4, true));
            Check.refusesState(who + "5) its second", () -> desk.block(u[0], u[1], 5, true));
            Check.passes(who + "5) off", () -> desk.block(u[0], u[1], 5, false));
        }
        Check.passes("another class", () -> desk.block(0, 3, 4, true));
        desk.drop(0, 0);
        Check.passes("free again", () -> desk.block(0, 2, 5, true));
        Check.answers("second class blocked in the second period", 4, () -> desk.place(0, 0, 4));
    }

    private static void place() {
        TimetableDesk desk = new TimetableDesk(2, 3);
        Desks.plain(desk, 0, 0, 12);
        int[][] wrong = {
            {-1, 0, 0}, {1, 0, 0}, {0, -1, 0}, {0, 2, 0}, {0, 0, -1}, {0, 0, 6}, {Desks.FAR, Desks.FAR, Desks.FAR},
            {Desks.FAR_BELOW, 0, 0}, {0, Desks.FAR_BELOW, 0}, {0, 0, Desks.FAR_BELOW}};
        for (int[] w : wrong) {
            Check.refusesArgument("place" + Arrays.toString(w), () -> desk.place(w[0], w[1], w[2]));
        }
        Check.answers("place(0, 1, 5)", 0, () -> desk.place(0, 1, 5));
        Check.refusesState("place(0, 1, 5) again", () -> desk.place(0, 1, 5));
        Check.refusesState("place(0, 1, 0) elsewhere", () -> desk.place(0, 1, 0));
        Check.refusesArgument("place(0, 1, 6) placed, no such period", () -> desk.place(0, 1, 6));
        Check.answers("broken", 6, () -> desk.place(0, 0, 3));
        Check.answers("nothing changed", -1, () -> desk.period(0, 0));
        Check.answers("no room taken", -1, () -> desk.roomOf(0, 0));
        Check.answers("a day of another lesson of four times", 0, () -> {
            Desks.plain(desk, 1, 1, 14);
            Desks.plain(desk, 2, 2, 11);
            desk.place(2, 0, 0);
            return desk.place(1, 0, 1);
        });
        desk.undo();
        Check.answers("two entries", 1, desk::undo);
        Check.answers("a broken rule was none", 0, desk::undo);
        Check.answers("place(0, 1, 0)", 0, () -> desk.place(0, 1, 0));
    }

    private static void placeByEachRule() {
        TimetableDesk desk = new TimetableDesk(2, 4);
        desk.lesson(0, 1, 0, 0, 22, 'x');
        desk.lesson(1, -1, 1, 0, 11, 'y');
        desk.lesson(2, -1, 0, 0, 11, 'z');
        for (int room = 1; room < 6; room++) {
            desk.room(room, 1);
        }
        desk.place(2, 0, 3);
        Check.answers("1 before 3", 1, () -> desk.place(0, 0, 3));
        Check.answers("1 at the week's end", 1, () -> desk.place(0, 0, 7));
        Check.answers("3 in the second period", 3, () -> desk.place(0, 0, 2));
        desk.block(1, 0, 2, true);
        Check.answers("2 in the first before 3 in the second", 2, () -> desk.place(0, 0, 2));
        Check.answers("2 in the second", 2, () -> desk.place(0, 0, 1));
        desk.place(1, 0, 1);
        Check.answers("5 of the second class", 5, () -> desk.place(0, 0, 0));
        desk.block(0, 0, 1, true);
        Check.answers("4 of the first before 5 of the second class", 4, () -> desk.place(0, 0, 0));
        desk.block(0, 0, 1, false);
        desk.drop(1, 0);
        Check.answers("0", 0, () -> desk.place(0, 0, 0));
        Check.answers("5 of a class that is second there", 5, () -> desk.place(1, 0, 1));
        desk.drop(2, 0);
        desk.block(1, 0, 2, false);
        desk.block(2, 0, 3, true);
        Check.answers("6 before 7", 6, () -> desk.place(0, 1, 2));
        desk.block(2, 0, 5, true);
        Check.answers("7 in the second period", 7, () -> desk.place(0, 1, 4));
        Check.answers("the next two periods", 0, () -> desk.place(0, 1, 6));
        Check.answers("7 as the room has an item", 7, () -> {
            desk.lesson(5, -1, 5, 0, 11, 'w');
            return desk.place(3, 0, 7);
        });
        desk.room(2, 0);
        Check.answers("a second room", 0, () -> desk.place(3, 0, 7));
        Check.answers("the second room", 2, () -> desk.roomOf(3, 0));
    }

    private static void drop() {
        TimetableDesk desk = new TimetableDesk(2, 3);
        Desks.plain(desk, 0, 0, 22);
        int[][] wrong = {{-1, 0}, {1, 0}, {0, -1}, {0, 2}, {Desks.FAR, 0}, {0, Desks.FAR_BELOW}};
        for (int[] w : wrong) {
            Check.refusesArgument("drop" + Arrays.toString(w), () -> desk.drop(w[0], w[1]));
        }
        Check.refusesState("drop(0, 0) not placed", () -> desk.drop(0, 0));
        desk.place(0, 0, 1);
        desk.place(0, 1, 3);
        Check.answers("drop(0, 0)", 1, () -> desk.drop(0, 0));
        Check.answers("its period", -1, () -> desk.period(0, 0));
        Check.answers("its room", -1, () -> desk.roomOf(0, 0));
        Check.answers("the other's period", 3, () -> desk.period(0, 1));
        Check.refusesState("drop(0, 0) again", () -> desk.drop(0, 0));
        Check.passes("both periods are free", () -> {
            desk.block(1, 0, 1, true);
            desk.block(0, 0, 2, true);
            desk.block(2, 0, 2, true);
        });
    }

    private static void fill() {
        TimetableDesk desk = new TimetableDesk(2, 3);
        for (int budget : new int[] {0, -1, 20001, Desks.FAR, Desks.FAR_BELOW}) {
            Check.refusesArgument("fill(" + budget + ")", () -> desk.fill(budget));
        }
        Check.answers("fill with no lessons", 1, () -> desk.fill(1));
        Check.refusesState("which is no entry", desk::undo);
        Desks.plain(desk, 0, 0, 12);
        Desks.plain(desk, 0, 1, 21);
        Desks.plain(desk, 1, 0, 11);
        Check.answers("fill(20000)", 1, () -> desk.fill(20000));
        Check.due("first class", "aaa\na..\n", Desks.text(desk, 0, 0, 8));
        Check.due("second class", ".a.\n...\n", Desks.text(desk, 0, 1, 8));
        Check.answers("lowest room", 1, () -> desk.roomOf(2, 0));
        Check.answers("fill again", 1, () -> desk.fill(1));
        Check.answers("one entry in all", 0, desk::undo);
        Check.due("all taken back", "...\n...\n", Desks.text(desk, 0, 0, 8));
    }

    private static void fillGoesBack() {
        TimetableDesk desk = new TimetableDesk(1, 3);
        Desks.plain(desk, 0, 0, 11);
        Desks.plain(desk, 0, 1, 21);
        desk.block(1, 1, 2, true);
        // 0 at 0; 1 at 0, 1, 2 fails; 0 at 1; 1 at 0, 1, 2 fails; 0 at 2; 1 at 0.
        Check.answers("one try too few", 2, () -> desk.fill(9));
        Check.answers("fill goes back", 1, () -> desk.fill(10));
        Check.answers("tries", 10, desk::tries);
        Check.due("class", "aaa\n", Desks.text(desk, 0, 0, 4));
        Check.answers("the first one moved on", 2, () -> desk.period(0, 0));
        desk.undo();
        desk.block(1, 1, 1, true);
        Check.answers("impossible", 0, () -> desk.fill(20000));
        Check.answers("tries", 12, desk::tries);
        Check.answers("all as before", -1, () -> desk.period(0, 0));
        Check.refusesState("no entry", desk::undo);
    }

    private static void fillAndBudget() {
        TimetableDesk desk = new TimetableDesk(1, 3);
        Desks.plain(desk, 0, 0, 12);
        // Impossible after 6 tries: 0 at 0, 1 at 1, 2; 0 at 1, 1 at 2; 0 at 2, and none for 1.
        Check.answers("five are too few", 2, () -> desk.fill(5));
        Check.answers("tries", 5, desk::tries);
        Check.answers("all as before", -1, () -> desk.period(0, 0));
        Check.passes("the room too", () -> desk.room(0, 0));
        Check.passes("the teacher too", () -> desk.block(1, 0, 1, true));
        desk.block(1, 0, 1, false);
        Check.answers("six tell that it is impossible", 0, () -> desk.fill(6));
        Desks.plain(desk, 1, 1, 13);
        Check.answers("still impossible, of the first lesson", 0, () -> desk.fill(6));
        tooDearBesideAPlacedItem();
        TimetableDesk easy = new TimetableDesk(1, 3);
        Desks.plain(easy, 0, 0, 11);
        Desks.plain(easy, 0, 1, 11);
        Check.answers("a budget of one less", 2, () -> easy.fill(2));
        Check.refusesState("no entry", easy::undo);
        Check.answers("a budget of just that", 1, () -> easy.fill(3));
        Check.answers("tries", 3, easy::tries);
    }

    private static void tooDearBesideAPlacedItem() {
        TimetableDesk desk = new TimetableDesk(1, 3);
        Desks.plain(desk, 0, 0, 11);
        Desks.plain(desk, 0, 0, 12);
        desk.place(0, 0, 0);
        Check.answers("the budget ends", 2, () -> desk.fill(3));
        Check.refusesState("the teacher still has an item", () -> desk.block(1, 0, 0, true));
        Check.refusesState("the class still has an item", () -> desk.block(0, 0, 0, true));
        Check.refusesState("the room still has an item", () -> desk.block(2, 0, 0, true));
        Check.passes("not where the search was", () -> desk.block(1, 0, 1, true));
    }

    private static void fillOfPartsOfALesson() {
        TimetableDesk desk = new TimetableDesk(4, 2);
        Desks.plain(desk, 0, 0, 13);
        desk.place(0, 1, 4);
        // Item 0 at 0; item 2 begins behind it: 1 is the same day, 2 is free.
        Check.answers("fill round a placed item", 1, () -> desk.fill(100));
        Check.answers("tries", 3, desk::tries);
        Check.answers("item 2", 2, () -> desk.period(0, 2));
        Check.answers("item 1 stays", 4, () -> desk.period(0, 1));
        desk.drop(0, 1);
        // The only item of this search begins at 0: 0 .. 3 are days of others.
        Check.answers("fill one", 1, () -> desk.fill(100));
        Check.answers("tries", 5, desk::tries);
        TimetableDesk late = new TimetableDesk(4, 2);
        Desks.plain(late, 0, 0, 13);
        late.place(0, 0, 6);
        Check.answers("fill before a placed item", 1, () -> late.fill(100));
        Check.answers("item 1", 0, () -> late.period(0, 1));
        Check.answers("item 2", 2, () -> late.period(0, 2));
    }

    /** All 64 items, so that the ends of all rows are reached. */
    private static void fullDesk() {
        TimetableDesk desk = new TimetableDesk(5, 6);
        for (int i = 0; i < 16; i++) {
            Desks.plain(desk, i % 8, 7 - i % 8, 14);
        }
        Check.refusesArgument("period(16, 0)", () -> desk.period(16, 0));
        Check.refusesArgument("roomOf(15, 4)", () -> desk.roomOf(15, 4));
        Check.answers("fill", 1, () -> desk.fill(20000));
        for (int i = 0; i < 16; i++) {
            for (int k = 0; k < 4; k++) {
                int lesson = i;
                int number = k;
                // There are six rooms for a period, so six lessons are in it.
                Check.answers("period(" + i + ", " + k + ")", 6 * k + i / 6, () -> desk.period(lesson, number));
                Check.answers("roomOf(" + i + ", " + k + ")", i % 6, () -> desk.roomOf(lesson, number));
            }
        }
        // Lessons 4 and 12, 5 and 13 have a period between them on four days.
        Check.answers("penalty", 4 * 2 * (2 + 1), desk::penalty);
        Check.answers("improve", 0, () -> desk.improve(10));
        Check.answers("drop(15, 3)", 20, () -> desk.drop(15, 3));
        Check.answers("undo drop", 2, desk::undo);
        Check.answers("absent", 2, () -> desk.absent(0, 3));
        Check.answers("undo improve", 1, desk::undo);
        Check.answers("undo fill", 0, desk::undo);
        Check.answers("all are out", -1, () -> desk.period(15, 3));
    }

    private static void tries() {
        TimetableDesk desk = new TimetableDesk(1, 6);
        Check.answers("tries at first", 0, desk::tries);
        Desks.plain(desk, 0, 0, 11);
        desk.block(1, 0, 0, true);
        desk.fill(10);
        Check.answers("tries", 2, desk::tries);
        Check.refusesArgument("fill(0)", () -> desk.fill(0));
        Check.answers("tries of the latest that was one", 2, desk::tries);
        desk.undo();
        desk.place(0, 0, 3);
        Check.answers("nothing else counts", 2, desk::tries);
        desk.fill(10);
        Check.answers("nothing to place", 0, desk::tries);
    }

    private static void period() {
        TimetableDesk desk = new TimetableDesk(5, 6);
        Check.refusesArgument("period without lessons", () -> desk.period(0, 0));
        Desks.plain(desk, 0, 0, 22);
        int[][] wrong = {{-1, 0}, {1, 0}, {0, -1}, {0, 2}, {Desks.FAR, 0}, {0, Desks.FAR_BELOW}};
        for (int[] w : wrong) {
            Check.refusesArgument("period" + Arrays.toString(w), () -> desk.period(w[0], w[1]));
        }
        Check.answers("not placed", -1, () -> desk.period(0, 1));
        desk.place(0, 1, 28);
        Check.answers("the first one of two", 28, () -> desk.period(0, 1));
        Check.answers("the other", -1, () -> desk.period(0, 0));
    }

    private static void roomOf() {
        TimetableDesk desk = new TimetableDesk(5, 6);
        Check.refusesArgument("roomOf without lessons", () -> desk.roomOf(0, 0));
        for (int i = 0; i < 7; i++) {
            Desks.plain(desk, i, i, 12);
        }
        int[][] wrong = {{-1, 0}, {7, 0}, {0, -1}, {0, 2}, {Desks.FAR, 0}, {0, Desks.FAR_BELOW}};
        for (int[] w : wrong) {
            Check.refusesArgument("roomOf" + Arrays.toString(w), () -> desk.roomOf(w[0], w[1]));
        }
        for (int i = 0; i < 6; i++) {
            int lesson = i;
            Check.answers("not placed", -1, () -> desk.roomOf(lesson, 1));
            desk.place(lesson, 1, 29);
            Check.answers("the lowest room", lesson, () -> desk.roomOf(lesson, 1));
        }
        Check.answers("no seventh room", 7, () -> desk.place(6, 1, 29));
        desk.drop(2, 1);
        Check.answers("one is free again", 0, () -> desk.place(6, 1, 29));
        Check.answers("that one", 2, () -> desk.roomOf(6, 1));
    }

    private static void penalty() {
        TimetableDesk desk = new TimetableDesk(2, 6);
        Desks.plain(desk, 0, 0, 12);
        Desks.plain(desk, 0, 1, 11);
        Desks.plain(desk, 1, 0, 11);
        desk.lesson(0, 1, 2, 0, 21, 'j');
        desk.place(0, 0, 0);
        Check.answers("one item", 0, desk::penalty);
        desk.place(1, 0, 4);
        Check.answers("three gaps of a class", 6, desk::penalty);
        desk.place(2, 0, 2);
        Check.answers("and one of a teacher", 7, desk::penalty);
        desk.place(0, 1, 6);
        Check.answers("no gap over the night", 7, desk::penalty);
        desk.place(3, 0, 10);
        // Class 0 has 6 and 10, 11: three gaps; class 1 has 10, 11: none; one last period.
        Check.answers("a long joined item at the end", 7 + 6 + 3, desk::penalty);
        TimetableDesk short1 = new TimetableDesk(2, 1);
        Desks.plain(short1, 0, 0, 12);
        short1.place(0, 0, 0);
        short1.place(0, 1, 1);
        Check.answers("all periods are last ones", 6, short1::penalty);
        TimetableDesk many = new TimetableDesk(1, 6);
        for (int i = 0; i < 3; i++) {
            Desks.plain(many, 3, 4, 11);
            many.place(i, 0, 5 - 2 * i);
        }
        // 5, 3 and 1 of one class and teacher: two gaps each, one last period.
        Check.answers("several gaps of a day", 2 * 2 + 2 + 3, many::penalty);
    }

    private static void improve() {
        TimetableDesk desk = new TimetableDesk(1, 6);
        for (int rounds : new int[] {0, -1, 11, Desks.FAR, Desks.FAR_BELOW}) {
            Check.refusesArgument("improve(" + rounds + ")", () -> desk.improve(rounds));
        }
        Check.answers("improve nothing", 0, () -> desk.improve(10));
        Desks.plain(desk, 0, 0, 11);
        Desks.plain(desk, 0, 1, 11);
        desk.place(0, 0, 5);
        desk.place(1, 0, 3);
        Check.answers("penalty before", 5, desk::penalty);
        Check.answers("improve(1)", 0, () -> desk.improve(1));
        Check.answers("the first of the best", 2, () -> desk.period(0, 0));
        Check.answers("the other stays, being no worse", 3, () -> desk.period(1, 0));
        Check.answers("improve again", 0, () -> desk.improve(10));
        Check.answers("that was no entry", 2, desk::undo);
        Check.answers("undone", 5, () -> desk.period(0, 0));
        desk.block(1, 0, 2, true);
        Check.answers("improve by rules", 0, () -> desk.improve(10));
        Check.answers("beside the block", 4, () -> desk.period(0, 0));
    }

    private static void improveKeepsItsRoom() {
        TimetableDesk desk = new TimetableDesk(1, 3);
        Desks.plain(desk, 0, 0, 11);
        Desks.plain(desk, 1, 1, 11);
        desk.place(0, 0, 0);
        desk.place(1, 0, 0);
        desk.drop(0, 0);
        Check.answers("room of the second", 1, () -> desk.roomOf(1, 0));
        Check.answers("improve(3)", 0, () -> desk.improve(3));
        Check.answers("stays with its room", 1, () -> desk.roomOf(1, 0));
        Check.answers("no entry", 2, desk::undo);
        desk.drop(1, 0);
        desk.drop(0, 0);
        desk.place(0, 0, 2);
        desk.place(1, 0, 2);
        Check.answers("improve(1)", 0, () -> desk.improve(1));
        Check.answers("moved to", 0, () -> desk.period(1, 0));
        Check.answers("with the lowest room there", 1, () -> desk.roomOf(1, 0));
    }

    private static void improveJoined() {
        TimetableDesk desk = new TimetableDesk(1, 6);
        desk.lesson(2, 3, 4, 0, 11, 'j');
        Desks.plain(desk, 3, 5, 11);
        Desks.plain(desk, 6, 4, 11);
        desk.place(0, 0, 0);
        desk.place(1, 0, 3);
        desk.place(2, 0, 3);
        Check.answers("gaps of the second class and the teacher", 4 + 2, desk::penalty);
        Check.answers("improve(1)", 0, () -> desk.improve(1));
        Check.answers("beside both", 2, () -> desk.period(0, 0));
        TimetableDesk torn = new TimetableDesk(1, 6);
        torn.lesson(2, 3, 4, 0, 11, 'j');
        Desks.plain(torn, 3, 5, 11);
        Desks.plain(torn, 6, 4, 11);
        torn.block(0, 2, 2, true);
        torn.block(0, 3, 2, true);
        torn.block(1, 5, 4, true);
        torn.block(1, 4, 4, true);
        torn.place(0, 0, 0);
        torn.place(1, 0, 3);
        // At 1: a gap of class 3, worth 2. Then item 1 has 2 blocked and 0 as good: the first of the best.
        Check.answers("improve(1)", 0, () -> torn.improve(1));
        Check.answers("nearer", 1, () -> torn.period(0, 0));
        Check.answers("then beside", 0, () -> torn.period(1, 0));
    }

    private static void improveForATeacher() {
        TimetableDesk desk = new TimetableDesk(1, 6);
        Desks.plain(desk, 1, 4, 11);
        Desks.plain(desk, 2, 4, 11);
        desk.place(0, 0, 0);
        desk.place(1, 0, 3);
        Check.answers("gaps of the teacher", 2, desk::penalty);
        Check.answers("improve(1)", 0, () -> desk.improve(1));
        Check.answers("beside the other", 2, () -> desk.period(0, 0));
    }

    private static void improveRounds() {
        TimetableDesk desk = needsTwoRounds();
        Check.answers("before", 5, desk::penalty);
        Check.answers("one round", 4, () -> desk.improve(1));
        TimetableDesk more = needsTwoRounds();
        Check.answers("ten rounds", 0, () -> more.improve(10));
        Check.answers("the first one", 2, () -> more.period(0, 0));
        Check.answers("the second one", 1, () -> more.period(1, 0));
        Check.answers("are one entry", 3, more::undo);
        Check.answers("undone", 5, more::penalty);
    }

    /** The first item can go to 2 alone, where the second one is, which goes to 1 behind it. */
    private static TimetableDesk needsTwoRounds() {
        TimetableDesk desk = new TimetableDesk(1, 4);
        Desks.plain(desk, 0, 0, 11);
        Desks.plain(desk, 1, 0, 11);
        Desks.plain(desk, 1, 1, 11);
        desk.block(0, 0, 0, true);
        desk.block(0, 0, 1, true);
        desk.place(0, 0, 3);
        desk.place(1, 0, 2);
        desk.place(2, 0, 0);
        return desk;
    }

    private static void absent() {
        TimetableDesk desk = new TimetableDesk(2, 6);
        int[][] wrong = {{-1, 0}, {8, 0}, {0, -1}, {0, 2}, {Desks.FAR, 0}, {0, Desks.FAR_BELOW}};
        for (int[] w : wrong) {
            Check.refusesArgument("absent" + Arrays.toString(w), () -> desk.absent(w[0], w[1]));
        }
        Desks.plain(desk, 0, 3, 22);
        Desks.plain(desk, 1, 3, 11);
        Desks.plain(desk, 1, 3, 11);
        desk.place(0, 0, 4);
        desk.place(0, 1, 6);
        desk.place(1, 0, 0);
        Check.answers("two on the first day", 2, () -> desk.absent(3, 0));
        Check.answers("one on the second day", 1, () -> desk.absent(3, 1));
        Check.answers("none of another", 0, () -> desk.absent(0, 1));
        Check.answers("not a change", 2, desk::undo);
    }

    private static void substitute() {
        TimetableDesk desk = new TimetableDesk(2, 6);
        Desks.plain(desk, 0, 3, 21);
        Desks.plain(desk, 0, 3, 11);
        Desks.plain(desk, 0, 3, 11);
        desk.place(0, 0, 4);
        desk.place(1, 0, 2);
        desk.place(2, 0, 0);
        desk.lesson(1, -1, 0, 0, 11, 'b');
        desk.place(3, 0, 5);
        desk.lesson(2, -1, 1, 0, 21, 'c');
        desk.place(4, 0, 2);
        for (int who = 4; who < 8; who++) {
            desk.block(1, who, 0, true);
            desk.block(1, who, 2, true);
        }
        desk.block(1, 4, 5, true);
        Check.answers("three items", 3, () -> desk.absent(3, 0));
        // At 0: 0 and 1 have one item each, 2 has none.
        Check.answers("the fewest items", 2, () -> desk.substitute(0));
        // At 2: 1 is busy; 0 has one item, 2 one substitution: the lowest.
        Check.answers("substitutions are counted", 0, () -> desk.substitute(1));
        // At 4 and 5: 0 has an item at 5, 4 a block; 1 and 2 have one each; 5 has none.
        Check.answers("free in both periods", 5, () -> desk.substitute(2));
        Check.refusesIndex("substitute(3)", () -> desk.substitute(3));
        Check.refusesIndex("substitute(-1)", () -> desk.substitute(-1));
        Check.refusesIndex("substitute far", () -> desk.substitute(Desks.FAR));
        Check.refusesIndex("substitute far below", () -> desk.substitute(Desks.FAR_BELOW));
        desk.drop(0, 0);
        Check.answers("found by the latest call", 5, () -> desk.substitute(2));
        Check.refusesArgument("absent(8, 0)", () -> desk.absent(8, 0));
        Check.answers("a refused call finds nothing new", 2, () -> desk.substitute(0));
        desk.absent(3, 1);
        Check.refusesIndex("a day without items", () -> desk.substitute(0));
    }

    private static void substituteOfNobody() {
        TimetableDesk desk = new TimetableDesk(1, 2);
        Desks.plain(desk, 0, 0, 11);
        Desks.plain(desk, 0, 0, 11);
        desk.place(0, 0, 0);
        desk.place(1, 0, 1);
        for (int who = 1; who < 8; who++) {
            desk.block(1, who, 0, true);
        }
        Check.answers("two items", 2, () -> desk.absent(0, 0));
        Check.answers("nobody", -1, () -> desk.substitute(0));
        Check.answers("the lowest of all", 1, () -> desk.substitute(1));
        desk.block(2, 0, 0, false);
        Check.answers("a room is no teacher", -1, () -> {
            desk.drop(0, 0);
            desk.room(5, 2);
            desk.lesson(0, -1, 0, 2, 11, 'r');
            desk.place(2, 0, 0);
            desk.absent(0, 0);
            return desk.substitute(0);
        });
        desk.block(1, 7, 0, false);
        desk.absent(0, 0);
        Check.answers("the only one", 7, () -> desk.substitute(0));
    }

    private static void undo() {
        TimetableDesk desk = new TimetableDesk(2, 3);
        Check.refusesState("undo at first", desk::undo);
        Desks.plain(desk, 0, 0, 12);
        desk.block(0, 1, 0, true);
        desk.room(5, 1);
        Check.refusesState("lessons, blocks and rooms are no entries", desk::undo);
        desk.place(0, 0, 2);
        desk.drop(0, 0);
        desk.fill(100);
        desk.drop(0, 1);
        desk.place(0, 1, 5);
        desk.improve(1);
        Check.answers("improved", 3, () -> desk.period(0, 1));
        Check.answers("undo improve", 5, desk::undo);
        Check.answers("back", 5, () -> desk.period(0, 1));
        Check.answers("undo place", 4, desk::undo);
        Check.answers("back", -1, () -> desk.period(0, 1));
        Check.answers("undo drop", 3, desk::undo);
        Check.answers("back", 3, () -> desk.period(0, 1));
        Check.answers("undo fill", 2, desk::undo);
        Check.answers("back", -1, () -> desk.period(0, 1));
        Check.answers("back", -1, () -> desk.period(0, 0));
        Check.answers("undo drop", 1, desk::undo);
        Check.answers("back", 2, () -> desk.period(0, 0));
        Check.answers("back with its room", 0, () -> desk.roomOf(0, 0));
        Check.answers("a lesson that came later", 1, () -> Desks.plain(desk, 0, 0, 11));
        Check.answers("undo place", 0, desk::undo);
        Check.refusesState("undo at the end", desk::undo);
        Check.answers("the lesson is still there", 0, () -> desk.place(1, 0, 2));
    }

    private static void undoKeepsTwenty() {
        TimetableDesk desk = new TimetableDesk(2, 3);
        Desks.plain(desk, 0, 0, 11);
        for (int i = 0; i < 12; i++) {
            desk.place(0, 0, i % 6);
            desk.drop(0, 0);
        }
        desk.place(0, 0, 4);
        desk.fill(1);
        desk.improve(1);
        for (int left = 19; left >= 0; left--) {
            Check.answers("undo", left, desk::undo);
            // Of the 25 entries the first five are gone; even ones placed the item, odd ones dropped it.
            int entry = 5 + left;
            Check.answers("period behind undo " + left, entry % 2 == 0 ? -1 : entry / 2 % 6,
                    () -> desk.period(0, 0));
        }
        Check.refusesState("undo", desk::undo);
        desk.drop(0, 0);
        Check.answers("one more entry", 0, desk::undo);
    }

    private static void undoThroughLaterBlocks() {
        TimetableDesk desk = new TimetableDesk(1, 3);
        Desks.plain(desk, 0, 0, 11);
        desk.place(0, 0, 0);
        desk.drop(0, 0);
        desk.block(0, 0, 0, true);
        desk.block(1, 0, 0, true);
        desk.block(2, 0, 0, true);
        desk.room(0, 2);
        Check.answers("undo", 1, desk::undo);
        Check.answers("there again", 0, () -> desk.period(0, 0));
        Check.answers("in its room", 0, () -> desk.roomOf(0, 0));
        Check.refusesState("the room has an item", () -> desk.room(0, 0));
        Check.refusesState("the class has an item", () -> desk.block(0, 0, 0, true));
        Check.answers("it stays, being no worse", 0, () -> desk.improve(1));
        Check.answers("there", 0, () -> desk.period(0, 0));
        desk.drop(0, 0);
        Check.answers("the blocks still count", 2, () -> desk.place(0, 0, 0));
    }

    private static void page() {
        TimetableDesk desk = new TimetableDesk(2, 3);
        desk.lesson(0, 7, 6, 0, 22, '~');
        desk.lesson(1, -1, 7, 0, 11, '!');
        int[][] wrong = {
            {-1, 0}, {3, 0}, {0, -1}, {0, 8}, {1, -1}, {1, 8}, {2, -1}, {2, 6}, {Desks.FAR, 0}, {0, Desks.FAR}};
        for (int[] w : wrong) {
            String call = "page" + Arrays.toString(w);
            Check.refusesArgument(call, () -> desk.page(w[0], w[1], 0));
            Check.refusesArgument(call + " and no such character", () -> desk.page(w[0], w[1], -1));
        }
        for (int i : new int[] {-1, 8, Desks.FAR, Desks.FAR_BELOW}) {
            Check.refusesIndex("page(0, 0, " + i + ")", () -> desk.page(0, 0, i));
        }
        Check.due("empty", "...\n...\n", Desks.text(desk, 2, 5, 8));
        desk.place(0, 0, 1);
        desk.place(0, 1, 3);
        desk.place(1, 0, 4);
        Check.due("class", ".~~\n~~.\n", Desks.text(desk, 0, 0, 8));
        Check.due("second class", ".~~\n~~.\n", Desks.text(desk, 0, 7, 8));
        Check.due("another class", "...\n.!.\n", Desks.text(desk, 0, 1, 8));
        Check.due("teacher", ".~~\n~~.\n", Desks.text(desk, 1, 6, 8));
        Check.due("another teacher", "...\n.!.\n", Desks.text(desk, 1, 7, 8));
        Check.due("no teacher of these", "...\n...\n", Desks.text(desk, 1, 0, 8));
        Check.due("room", ".~~\n~~.\n", Desks.text(desk, 2, 0, 8));
        Check.due("another room", "...\n.!.\n", Desks.text(desk, 2, 1, 8));
        desk.block(0, 0, 0, true);
        Check.due("blocks are not on it", ".~~\n~~.\n", Desks.text(desk, 0, 0, 8));
        desk.drop(0, 0);
        Check.due("dropped", "...\n~~.\n", Desks.text(desk, 0, 0, 8));
    }
}
