import java.util.Arrays;

/** The boundary cases of the rules and of place, drop, period and roomOf, a sentence at a time. */
public final class PlacingBoundariesTest {
    private static final int[][] NO_ITEMS = {
        {-1, 0}, {2, 0}, {0, -1}, {0, 2}, {1, 4}, {16, 0}, {0, 4}, {Desks.FAR, 0}, {0, Desks.FAR},
        {Desks.FAR_BELOW, 0}, {0, Desks.FAR_BELOW}};

    public static void main(String[] args) {
        placeOfNoItem();
        placeInNoPeriod();
        placeOfAPlacedItem();
        nothingChanges();
        doesNotFit();
        teacherBlocked();
        teacherHasAnother();
        classBlocked();
        classHasAnother();
        sameDay();
        noRoom();
        lowestRoom();
        orderOfRules();
        orderOfRulesInOnePeriod();
        dropOfNoItem();
        dropOfAnItemThatIsOut();
        dropAnswersWhereItWas();
        periodOfNoItem();
        periodWhenNotPlaced();
        roomOfNoItem();
        roomWhenNotPlaced();
        Check.end();
    }

    /** Two lessons: of two items and of four. */
    private static TimetableDesk twoLessons(int days, int perDay) {
        TimetableDesk desk = new TimetableDesk(days, perDay);
        Desks.plain(desk, 0, 0, 12);
        Desks.plain(desk, 1, 1, 14);
        return desk;
    }

    private static void placeOfNoItem() {
        Check.sentence("5: IllegalArgumentException: no such item");
        for (int[] item : NO_ITEMS) {
            TimetableDesk desk = twoLessons(5, 6);
            Check.refusesArgument("place" + Arrays.toString(item), () -> desk.place(item[0], item[1], 0));
        }
        Check.refusesArgument("place without lessons", () -> new TimetableDesk(1, 1).place(0, 0, 0));
        Check.answers("its last item", 0, () -> twoLessons(5, 6).place(1, 3, 0));
    }

    private static void placeInNoPeriod() {
        Check.sentence("5: IllegalArgumentException: no such period");
        for (int period : new int[] {-1, 6, 30, 32, Desks.FAR, Desks.FAR_BELOW}) {
            TimetableDesk desk = twoLessons(2, 3);
            Check.refusesArgument("place(0, 0, " + period + ")", () -> desk.place(0, 0, period));
            desk.place(0, 0, 0);
            Check.refusesArgument("of a placed item, in " + period, () -> desk.place(0, 0, period));
        }
        Check.answers("the first period", 0, () -> twoLessons(2, 3).place(0, 0, 0));
        Check.answers("the last period", 0, () -> twoLessons(2, 3).place(0, 0, 5));
    }

    private static void placeOfAPlacedItem() {
        Check.sentence("5: IllegalStateException: it is placed");
        TimetableDesk desk = twoLessons(2, 3);
        desk.place(0, 0, 0);
        for (int period = 0; period < 6; period++) {
            int each = period;
            Check.refusesState("place(0, 0, " + period + ") again", () -> desk.place(0, 0, each));
        }
        Check.answers("it stays", 0, () -> desk.period(0, 0));
        Check.answers("the other item is not placed", 0, () -> desk.place(0, 1, 3));
        TimetableDesk wide = twoLessons(4, 3);
        Check.answers("fill", 1, () -> wide.fill(100));
        Check.refusesState("placed by a fill", () -> wide.place(1, 3, 11));
        wide.drop(1, 3);
        wide.undo();
        Check.refusesState("placed again by an undo", () -> wide.place(1, 3, 11));
    }

    /** Each rule in a desk of its own, whose item 0 of lesson 0 breaks it in period 0. */
    private static TimetableDesk breaking(int rule) {
        TimetableDesk desk = new TimetableDesk(2, rule == 1 ? 1 : 5);
        desk.lesson(0, 1, 0, 0, 22, 'x');
        desk.lesson(2, -1, 0, 0, 11, 'y');
        desk.lesson(1, -1, 3, 0, 11, 'z');
        switch (rule) {
            case 2:
                desk.block(1, 0, 1, true);
                break;
            case 3:
                desk.place(1, 0, 1);
                break;
            case 4:
                desk.block(0, 1, 1, true);
                break;
            case 5:
                desk.place(2, 0, 1);
                break;
            case 6:
                desk.place(0, 1, 2);
                break;
            case 7:
                Desks.leaveRooms(desk, 1);
                desk.block(2, 0, 1, true);
                break;
            default:
                break;
        }
        return desk;
    }

    private static void nothingChanges() {
        Check.sentence("5: the rule that is broken (nothing changes then)");
        for (int rule = 1; rule <= 7; rule++) {
            TimetableDesk desk = breaking(rule);
            int due = rule;
            Check.answers("place", due, () -> desk.place(0, 0, 0));
            Check.answers("its period", -1, () -> desk.period(0, 0));
            Check.answers("its room", -1, () -> desk.roomOf(0, 0));
            Check.refusesState("it can't be dropped", () -> desk.drop(0, 0));
            Check.passes("its teacher has no item there", () -> desk.block(1, 0, 0, true));
            Check.passes("its class has no item there", () -> desk.block(0, 0, 0, true));
            Check.passes("its second class has no item there", () -> desk.block(0, 1, 0, true));
            Check.passes("the room has no item there", () -> desk.block(2, 0, 0, true));
            Check.answers("no gap and no last period", 0, desk::penalty);
            if (rule == 3 || rule == 5 || rule == 6) {
                Check.answers("what was placed before is undone", 0, desk::undo);
            }
            Check.refusesState("it is no entry", desk::undo);
        }
    }

    private static void doesNotFit() {
        Check.sentence("Rule 1: two periods do not fit into the day");
        for (int perDay = 1; perDay <= 6; perDay++) {
            TimetableDesk desk = new TimetableDesk(3, perDay);
            Desks.plain(desk, 0, 0, 23);
            Desks.plain(desk, 1, 1, 13);
            for (int day = 0; day < 3; day++) {
                int k = day;
                int end = day * perDay + perDay - 1;
                Check.answers("two in the last period of a day", 1, () -> desk.place(0, k, end));
                Check.answers("one in the last period of a day", 0, () -> desk.place(1, k, end));
                if (perDay > 1) {
                    Check.answers("two in the two last periods", 0, () -> desk.place(0, k, end - 1));
                }
            }
        }
    }

    /** A lesson of two periods and times, of classes 0 and 1 and teacher 0, in a week of two days of 4. */
    private static TimetableDesk longJoined() {
        TimetableDesk desk = new TimetableDesk(2, 4);
        desk.lesson(0, 1, 0, 0, 22, 'x');
        return desk;
    }

    /** What place answers in each period, each time on a new desk with that block. */
    private static String answersWithBlock(int what, int who, int period) {
        StringBuilder answers = new StringBuilder();
        for (int from = 0; from < 8; from++) {
            TimetableDesk desk = longJoined();
            desk.block(what, who, period, true);
            answers.append(desk.place(0, 0, from));
        }
        return answers.toString();
    }

    private static void teacherBlocked() {
        Check.sentence("Rule 2: the teacher is blocked");
        Check.due("in period 0", "20010001", answersWithBlock(1, 0, 0));
        Check.due("in period 2", "02210001", answersWithBlock(1, 0, 2));
        Check.due("in the last period of a day", "00210001", answersWithBlock(1, 0, 3));
        Check.due("in the first period of the next day", "00012001", answersWithBlock(1, 0, 4));
        Check.due("in the last period", "00010021", answersWithBlock(1, 0, 7));
        Check.due("another teacher", "00010001", answersWithBlock(1, 1, 2));
        Check.due("the last teacher", "00010001", answersWithBlock(1, 7, 2));
    }

    private static void classBlocked() {
        Check.sentence("Rule 4: the class (or second class) is blocked");
        for (int who = 0; who < 2; who++) {
            Check.due("in period 0", "40010001", answersWithBlock(0, who, 0));
            Check.due("in period 2", "04410001", answersWithBlock(0, who, 2));
            Check.due("in the last period of a day", "00410001", answersWithBlock(0, who, 3));
            Check.due("in the first period of the next day", "00014001", answersWithBlock(0, who, 4));
            Check.due("in the last period", "00010041", answersWithBlock(0, who, 7));
        }
        Check.due("another class", "00010001", answersWithBlock(0, 2, 2));
        Check.due("the last class", "00010001", answersWithBlock(0, 7, 2));
    }

    /** What place answers in each period, each time on a new desk with another lesson's item. */
    private static String answersBeside(int first, int second, int teacher, int length, int period) {
        StringBuilder answers = new StringBuilder();
        for (int from = 0; from < 8; from++) {
            TimetableDesk desk = longJoined();
            desk.lesson(first, second, teacher, 0, 10 * length + 1, 'y');
            desk.place(1, 0, period);
            answers.append(desk.place(0, 0, from));
        }
        return answers.toString();
    }

    private static void teacherHasAnother() {
        Check.sentence("Rule 3: the teacher has another item there");
        Check.due("one in period 0", "30010001", answersBeside(2, -1, 0, 1, 0));
        Check.due("one in period 2", "03310001", answersBeside(2, -1, 0, 1, 2));
        Check.due("two in periods 1 and 2", "33310001", answersBeside(2, -1, 0, 2, 1));
        Check.due("one in the last period", "00010031", answersBeside(2, -1, 0, 1, 7));
        Check.due("another teacher", "00010001", answersBeside(2, -1, 1, 1, 2));
    }

    private static void classHasAnother() {
        Check.sentence("Rule 5: the class (or second class) has another item there");
        int[][] classes = {{0, -1}, {1, -1}, {2, 0}, {2, 1}, {1, 0}};
        for (int[] c : classes) {
            Check.due("one in period 0", "50010001", answersBeside(c[0], c[1], 1, 1, 0));
            Check.due("one in period 2", "05510001", answersBeside(c[0], c[1], 1, 1, 2));
            Check.due("two in periods 1 and 2", "55510001", answersBeside(c[0], c[1], 1, 2, 1));
            Check.due("one in the last period", "00010051", answersBeside(c[0], c[1], 1, 1, 7));
        }
        Check.due("other classes", "00010001", answersBeside(7, 2, 1, 1, 2));
    }

    private static void sameDay() {
        Check.sentence("Rule 6: another item of the lesson is on the same day");
        for (int period = 0; period < 8; period++) {
            TimetableDesk desk = new TimetableDesk(2, 4);
            Desks.plain(desk, 0, 0, 14);
            int at = period;
            Check.answers("its last item", 0, () -> desk.place(0, 3, at));
            StringBuilder answers = new StringBuilder();
            for (int from = 0; from < 8; from++) {
                if (from != period) {
                    int rule = desk.place(0, 0, from);
                    answers.append(rule);
                    if (rule == 0) {
                        desk.drop(0, 0);
                    }
                }
            }
            Check.due("with another one at " + period, period < 4 ? "6660000" : "0000666", answers.toString());
            Check.answers("behind it", 0, () -> {
                desk.drop(0, 3);
                return desk.place(0, 0, at);
            });
        }
        TimetableDesk desk = new TimetableDesk(1, 4);
        Desks.plain(desk, 0, 0, 12);
        Desks.plain(desk, 0, 0, 11);
        desk.place(1, 0, 0);
        Check.answers("another lesson of the same class and teacher", 0, () -> desk.place(0, 0, 3));
        Check.answers("the lesson's own", 6, () -> desk.place(0, 1, 1));
    }

    private static void noRoom() {
        Check.sentence("Rule 7: no room of the kind is free and not blocked in all its periods");
        TimetableDesk desk = new TimetableDesk(1, 3);
        Desks.leaveRooms(desk, 2);
        desk.lesson(0, -1, 0, 0, 21, 'x');
        desk.lesson(1, -1, 1, 0, 11, 'y');
        desk.lesson(0, -1, 0, 1, 11, 'w');
        Check.answers("no room is of kind 1", 7, () -> desk.place(2, 0, 0));
        desk.block(2, 0, 0, true);
        desk.block(2, 1, 1, true);
        Check.answers("each is blocked in one period of two", 7, () -> desk.place(0, 0, 0));
        Check.answers("one is not blocked in the two periods behind", 7, () -> {
            desk.block(2, 0, 2, true);
            return desk.place(0, 0, 1);
        });
        desk.block(2, 0, 0, false);
        Check.answers("room 0 is not blocked in both", 0, () -> desk.place(0, 0, 0));
        Check.answers("the other is free in one", 0, () -> desk.place(1, 0, 0));
        Check.answers("it has room 1", 1, () -> desk.roomOf(1, 0));
        desk.drop(1, 0);
        Check.answers("one has an item, the other a block", 7, () -> desk.place(1, 0, 1));
        desk.room(5, 1);
        Check.answers("a room of another kind is no help", 7, () -> desk.place(1, 0, 1));
        desk.room(5, 0);
        Check.answers("the last room is", 0, () -> desk.place(1, 0, 1));
        Check.answers("it has room 5", 5, () -> desk.roomOf(1, 0));
    }

    private static void lowestRoom() {
        Check.sentence("Rules: otherwise it gets the lowest such room");
        for (int kind = 0; kind < 3; kind++) {
            TimetableDesk desk = new TimetableDesk(1, 2);
            desk.lesson(0, -1, 0, kind, 21, 'x');
            for (int room = 5; room >= 0; room--) {
                int each = room;
                for (int other = 0; other < 6; other++) {
                    desk.room(other, other >= room ? kind : (kind + 1) % 3);
                }
                Check.answers("rooms from " + room + " on are of its kind", 0, () -> desk.place(0, 0, 0));
                Check.answers("so it has the first of them", each, () -> desk.roomOf(0, 0));
                desk.drop(0, 0);
            }
            for (int room = 0; room < 5; room++) {
                int each = room;
                desk.block(2, room, room % 2, true);
                Check.answers("rooms up to " + room + " are blocked in a period", 0, () -> desk.place(0, 0, 0));
                Check.answers("so it has the next", each + 1, () -> desk.roomOf(0, 0));
                desk.drop(0, 0);
            }
        }
    }

    /** Breaks all rules at once, and takes back the first one that is broken, one by one. */
    private static void orderOfRules() {
        Check.sentence("Rules, in this order; the first one that is broken counts");
        TimetableDesk desk = new TimetableDesk(1, 6);
        desk.lesson(0, 1, 0, 0, 22, 'x');
        desk.lesson(2, -1, 0, 0, 11, 'y');
        desk.lesson(1, -1, 1, 1, 11, 'z');
        Desks.leaveRooms(desk, 1);
        desk.room(1, 1);
        desk.place(0, 1, 3);
        desk.place(1, 0, 1);
        desk.place(2, 0, 1);
        desk.block(1, 0, 0, true);
        desk.block(0, 0, 0, true);
        desk.block(2, 0, 0, true);
        desk.block(1, 0, 5, true);
        desk.block(0, 1, 5, true);
        desk.block(2, 0, 5, true);
        Check.answers("all but 3 and 5 are broken at the end", 1, () -> desk.place(0, 0, 5));
        Check.answers("2 .. 7 are broken", 2, () -> desk.place(0, 0, 0));
        desk.block(1, 0, 0, false);
        Check.answers("3 .. 7 are broken", 3, () -> desk.place(0, 0, 0));
        desk.drop(1, 0);
        Check.answers("4 .. 7 are broken", 4, () -> desk.place(0, 0, 0));
        desk.block(0, 0, 0, false);
        Check.answers("5 .. 7 are broken", 5, () -> desk.place(0, 0, 0));
        desk.drop(2, 0);
        Check.answers("6 and 7 are broken", 6, () -> desk.place(0, 0, 0));
        desk.drop(0, 1);
        Check.answers("7 is broken", 7, () -> desk.place(0, 0, 0));
        desk.block(2, 0, 0, false);
        Check.answers("none is broken", 0, () -> desk.place(0, 0, 0));
    }

    /** A block can come under an item when the item is out meanwhile. */
    private static void orderOfRulesInOnePeriod() {
        Check.sentence("Rules, in this order, of one and the same period");
        TimetableDesk desk = new TimetableDesk(1, 1);
        Desks.plain(desk, 0, 0, 11);
        Desks.plain(desk, 0, 0, 11);
        desk.place(0, 0, 0);
        desk.drop(0, 0);
        desk.block(1, 0, 0, true);
        desk.block(0, 0, 0, true);
        desk.undo();
        Check.answers("blocked and with another item", 2, () -> desk.place(1, 0, 0));
        desk.block(1, 0, 0, false);
        Check.answers("the teacher's item before the class's block", 3, () -> desk.place(1, 0, 0));
        Check.answers("the class's block before its item", 4, () -> {
            desk.lesson(0, -1, 1, 0, 11, 'b');
            return desk.place(2, 0, 0);
        });
        desk.block(0, 0, 0, false);
        Check.answers("the class's item", 5, () -> desk.place(2, 0, 0));
    }

    private static void dropOfNoItem() {
        Check.sentence("6: IllegalArgumentException: no such item");
        for (int[] item : NO_ITEMS) {
            TimetableDesk desk = twoLessons(5, 6);
            desk.fill(20000);
            Check.refusesArgument("drop" + Arrays.toString(item), () -> desk.drop(item[0], item[1]));
        }
        Check.refusesArgument("drop without lessons", () -> new TimetableDesk(1, 1).drop(0, 0));
    }

    private static void dropOfAnItemThatIsOut() {
        Check.sentence("6: IllegalStateException: it is not placed");
        TimetableDesk desk = twoLessons(5, 6);
        Check.refusesState("at first", () -> desk.drop(0, 0));
        desk.place(0, 0, 0);
        Check.refusesState("another item of the lesson", () -> desk.drop(0, 1));
        desk.drop(0, 0);
        Check.refusesState("twice", () -> desk.drop(0, 0));
        desk.place(0, 0, 0);
        desk.undo();
        Check.refusesState("undone", () -> desk.drop(0, 0));
        Check.answers("refused calls are no entries: the drop is undone", 1, desk::undo);
        Check.answers("it is there", 0, () -> desk.drop(0, 0));
    }

    private static void dropAnswersWhereItWas() {
        Check.sentence("6: takes an item out: where it was");
        TimetableDesk desk = new TimetableDesk(5, 6);
        desk.lesson(6, 7, 7, 0, 24, 'x');
        for (int day = 0; day < 5; day++) {
            for (int at : new int[] {6 * day, 6 * day + 4}) {
                desk.place(0, 3, at);
                Check.answers("drop", at, () -> desk.drop(0, 3));
                Check.answers("no period", -1, () -> desk.period(0, 3));
                Check.answers("no room", -1, () -> desk.roomOf(0, 3));
            }
        }
        Check.due("nothing is left of its class", "......\n".repeat(5), Desks.text(desk, 0, 7, 35));
        Check.due("nothing is left of its teacher", "......\n".repeat(5), Desks.text(desk, 1, 7, 35));
        Check.due("nothing is left of its room", "......\n".repeat(5), Desks.text(desk, 2, 0, 35));
        desk.place(0, 3, 28);
        desk.place(0, 0, 22);
        Check.answers("of two items", 28, () -> desk.drop(0, 3));
        Check.answers("the other stays", 22, () -> desk.period(0, 0));
        Check.passes("its first period is free", () -> desk.block(0, 6, 28, true));
        Check.passes("its second period is free", () -> desk.block(0, 7, 29, true));
        Check.passes("of the teacher too", () -> desk.block(1, 7, 29, true));
        Check.passes("of the room too", () -> desk.block(2, 0, 29, true));
    }

    private static void periodOfNoItem() {
        Check.sentence("9: IllegalArgumentException: no such item");
        for (int[] item : NO_ITEMS) {
            TimetableDesk desk = twoLessons(5, 6);
            Check.refusesArgument("period" + Arrays.toString(item), () -> desk.period(item[0], item[1]));
        }
        Check.refusesArgument("period without lessons", () -> new TimetableDesk(1, 1).period(0, 0));
    }

    private static void periodWhenNotPlaced() {
        Check.sentence("9: the period of an item, -1 when it is not placed");
        TimetableDesk desk = twoLessons(5, 6);
        Check.answers("at first", -1, () -> desk.period(1, 3));
        desk.place(1, 3, 0);
        Check.answers("in the first period", 0, () -> desk.period(1, 3));
        Check.answers("another item of the lesson", -1, () -> desk.period(1, 2));
        desk.drop(1, 3);
        Check.answers("dropped", -1, () -> desk.period(1, 3));
        desk.place(1, 3, 29);
        Check.answers("in the last period", 29, () -> desk.period(1, 3));
        desk.undo();
        Check.answers("undone", -1, () -> desk.period(1, 3));
        Desks.plain(desk, 2, 2, 21);
        desk.place(2, 0, 28);
        Check.answers("the first one of two", 28, () -> desk.period(2, 0));
    }

    private static void roomOfNoItem() {
        Check.sentence("10: likewise IllegalArgumentException: no such item");
        for (int[] item : NO_ITEMS) {
            TimetableDesk desk = twoLessons(5, 6);
            Check.refusesArgument("roomOf" + Arrays.toString(item), () -> desk.roomOf(item[0], item[1]));
        }
        Check.refusesArgument("roomOf without lessons", () -> new TimetableDesk(1, 1).roomOf(0, 0));
    }

    private static void roomWhenNotPlaced() {
        Check.sentence("10: its room, -1 likewise");
        TimetableDesk desk = twoLessons(5, 6);
        Check.answers("at first", -1, () -> desk.roomOf(1, 3));
        desk.place(1, 3, 0);
        Check.answers("the first room in the first period", 0, () -> desk.roomOf(1, 3));
        Check.answers("another item of the lesson", -1, () -> desk.roomOf(1, 2));
        desk.drop(1, 3);
        Check.answers("dropped", -1, () -> desk.roomOf(1, 3));
        for (int room = 0; room < 5; room++) {
            desk.block(2, room, 29, true);
        }
        desk.place(1, 3, 29);
        Check.answers("the last room in the last period", 5, () -> desk.roomOf(1, 3));
        desk.undo();
        Check.answers("undone", -1, () -> desk.roomOf(1, 3));
    }
}
