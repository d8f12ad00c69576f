/** The boundary cases of penalty and improve, a sentence at a time. */
public final class BetteringBoundariesTest {
    public static void main(String[] args) {
        emptyWeek();
        gapsOfAClass();
        gapsOfASecondClass();
        gapsOfATeacher();
        noGapsAtTheEnds();
        noGapsOverNight();
        lastPeriods();
        lastPeriodOfALongItem();
        lastPeriodOfJoinedClasses();
        daysOfOnePeriod();
        roundsOutOfRange();
        improveNothing();
        oneRound();
        tenRounds();
        endsBehindARoundWithoutChange();
        firstOfTheLeast();
        gapsOfTeachersInImprove();
        gapsOfSecondClassesInImprove();
        gapsAgainstLastPeriods();
        notLessStays();
        staysWithItsRoom();
        goesWithTheLowestRoom();
        isTakenOutFirst();
        keepsToEachRule();
        inOrder();
        itemsThatAreNotPlaced();
        nowhereElse();
        stayingAgainstALaterBlock();
        Check.end();
    }

    private static TimetableDesk day(int perDay) {
        return new TimetableDesk(1, perDay);
    }

    /** One more lesson of one item, at once placed. */
    private static void put(TimetableDesk desk, int who, int second, int teacher, int length, int period) {
        int lesson = desk.lesson(who, second, teacher, 0, 10 * length + 1, 'a');
        Check.answers("place at " + period, 0, () -> desk.place(lesson, 0, period));
    }

    private static void isAt(TimetableDesk desk, int lesson, int period) {
        Check.answers("period(" + lesson + ", 0)", period, () -> desk.period(lesson, 0));
    }

    private static void emptyWeek() {
        Check.sentence("11: the penalty of an empty week");
        TimetableDesk desk = new TimetableDesk(5, 6);
        Check.answers("no lessons", 0, desk::penalty);
        Desks.plain(desk, 0, 0, 14);
        Check.answers("no items placed", 0, desk::penalty);
        desk.block(0, 0, 0, true);
        desk.block(0, 0, 5, true);
        desk.block(1, 0, 5, true);
        Check.answers("blocks are no items", 0, desk::penalty);
        desk.place(0, 0, 2);
        Check.answers("one item has no gaps", 0, desk::penalty);
        desk.drop(0, 0);
        Check.answers("dropped", 0, desk::penalty);
    }

    private static void gapsOfAClass() {
        Check.sentence("Penalty: gaps: 2 each for classes");
        for (int first = 0; first < 5; first++) {
            for (int last = first + 1; last < 5; last++) {
                TimetableDesk desk = new TimetableDesk(5, 6);
                put(desk, 7, -1, 0, 1, 24 + first);
                put(desk, 7, -1, 1, 1, 24 + last);
                Check.answers(first + " and " + last, 2 * (last - first - 1), desk::penalty);
            }
        }
        TimetableDesk desk = day(6);
        put(desk, 0, -1, 0, 1, 0);
        put(desk, 0, -1, 1, 1, 2);
        put(desk, 0, -1, 2, 1, 4);
        Check.answers("two gaps on one day", 4, desk::penalty);
        put(desk, 0, -1, 3, 1, 1);
        Check.answers("one is filled", 2, desk::penalty);
        put(desk, 0, -1, 4, 1, 3);
        Check.answers("both are filled", 0, desk::penalty);
    }

    private static void gapsOfASecondClass() {
        Check.sentence("Penalty: for each class, also as a second one");
        TimetableDesk desk = day(6);
        put(desk, 0, 1, 0, 1, 0);
        put(desk, 2, 1, 1, 1, 3);
        Check.answers("class 1 has two gaps", 4, desk::penalty);
        put(desk, 0, -1, 2, 1, 4);
        Check.answers("class 0 has three", 4 + 6, desk::penalty);
    }

    private static void gapsOfATeacher() {
        Check.sentence("Penalty: gaps: 1 each for teachers");
        for (int first = 0; first < 5; first++) {
            for (int last = first + 1; last < 5; last++) {
                TimetableDesk desk = new TimetableDesk(5, 6);
                put(desk, 0, -1, 7, 1, 24 + first);
                put(desk, 1, -1, 7, 1, 24 + last);
                Check.answers(first + " and " + last, last - first - 1, desk::penalty);
            }
        }
        TimetableDesk both = day(6);
        put(both, 0, -1, 0, 1, 0);
        put(both, 0, -1, 0, 1, 4);
        Check.answers("a class and a teacher", 3 * (2 + 1), both::penalty);
    }

    private static void noGapsAtTheEnds() {
        Check.sentence("Penalty: gaps: periods between the first and the last one with an item");
        TimetableDesk desk = day(6);
        put(desk, 0, -1, 0, 2, 2);
        Check.answers("none before and none behind", 0, desk::penalty);
        put(desk, 0, -1, 0, 1, 1);
        Check.answers("side by side", 0, desk::penalty);
        TimetableDesk longs = day(6);
        put(longs, 0, -1, 0, 2, 0);
        put(longs, 0, -1, 0, 2, 3);
        Check.answers("between two long ones", 2 + 1, longs::penalty);
        TimetableDesk whole = day(6);
        put(whole, 0, -1, 0, 1, 0);
        put(whole, 0, -1, 0, 1, 5);
        Check.answers("from one end of the day to the other", 4 * (2 + 1) + 3, whole::penalty);
    }

    private static void noGapsOverNight() {
        Check.sentence("Penalty: for each day");
        for (int night = 1; night < 5; night++) {
            TimetableDesk desk = new TimetableDesk(5, 6);
            put(desk, 0, -1, 0, 1, 6 * night - 2);
            put(desk, 0, -1, 0, 1, 6 * night + 1);
            Check.answers("two days without gaps", 0, desk::penalty);
            put(desk, 0, -1, 0, 1, 6 * night + 3);
            Check.answers("a gap on the second day", 3, desk::penalty);
            put(desk, 0, -1, 0, 1, 6 * night - 4);
            Check.answers("a gap on each day", 6, desk::penalty);
        }
    }

    private static void lastPeriods() {
        Check.sentence("Penalty: 3 for each item that has the last period of a day");
        for (int perDay = 1; perDay <= 6; perDay++) {
            TimetableDesk desk = new TimetableDesk(5, perDay);
            for (int day = 0; day < 5; day++) {
                put(desk, 0, -1, 0, 1, day * perDay + perDay - 1);
                Check.answers("last periods of " + (day + 1) + " days", 3 * (day + 1), desk::penalty);
            }
            put(desk, 1, -1, 1, 1, perDay - 1);
            Check.answers("each item counts", 18, desk::penalty);
        }
        TimetableDesk desk = day(6);
        put(desk, 0, -1, 0, 1, 4);
        Check.answers("the last but one", 0, desk::penalty);
    }

    private static void lastPeriodOfALongItem() {
        Check.sentence("Penalty: that has the last period of a day (of its periods)");
        for (int perDay = 2; perDay <= 6; perDay++) {
            TimetableDesk desk = new TimetableDesk(2, perDay);
            put(desk, 0, -1, 0, 2, perDay - 2);
            Check.answers("its second period is the last one", 3, desk::penalty);
            put(desk, 1, -1, 1, 2, 2 * perDay - 2);
            Check.answers("and of the week", 6, desk::penalty);
        }
        TimetableDesk desk = day(6);
        put(desk, 0, -1, 0, 2, 3);
        Check.answers("its second period is the last but one", 0, desk::penalty);
    }

    private static void lastPeriodOfJoinedClasses() {
        Check.sentence("Penalty: 3 for each item, not for each of its classes");
        TimetableDesk desk = day(3);
        put(desk, 0, 1, 0, 1, 2);
        Check.answers("one item of two classes", 3, desk::penalty);
    }

    private static void daysOfOnePeriod() {
        Check.sentence("Penalty: days of one period have no gaps, and all are last ones");
        TimetableDesk desk = new TimetableDesk(5, 1);
        Desks.plain(desk, 0, 0, 14);
        desk.place(0, 0, 0);
        desk.place(0, 1, 4);
        desk.place(0, 2, 2);
        Check.answers("three items", 9, desk::penalty);
        Check.answers("nothing to better", 9, () -> desk.improve(10));
        Check.answers("so it is no entry", 2, desk::undo);
    }

    private static void roundsOutOfRange() {
        Check.sentence("12: so many rounds (1 .. 10); IllegalArgumentException: it is not so");
        for (int rounds : new int[] {0, -1, 11, 12, Desks.FAR, Desks.FAR_BELOW}) {
            TimetableDesk desk = day(3);
            Check.refusesArgument("nothing placed: improve(" + rounds + ")", () -> desk.improve(rounds));
            put(desk, 0, -1, 0, 1, 2);
            Check.refusesArgument("improve(" + rounds + ")", () -> desk.improve(rounds));
            isAt(desk, 0, 2);
            Check.answers("it is no entry", 0, desk::undo);
        }
    }

    private static void improveNothing() {
        Check.sentence("12: the penalty, of an empty week");
        TimetableDesk desk = new TimetableDesk(5, 6);
        Check.answers("no lessons", 0, () -> desk.improve(1));
        Desks.plain(desk, 0, 0, 14);
        Check.answers("no items placed", 0, () -> desk.improve(10));
        Check.answers("it places none", -1, () -> desk.period(0, 0));
        Check.refusesState("it is no entry", desk::undo);
    }

    /**
     * Eleven movers in a row of twelve slots, the last of which is free: only one room is for them, and
     * it is open in the slots alone. Each may be in its slot and the next one alone, has an anchor of
     * its class on the day of the first, with a gap, and none on that of the next. So a round moves
     * just one: the last mover in the first round, the first mover in the eleventh.
     */
    private static final class Row {
        private static final int MOVERS = 11;
        // Slots 0 .. 7 are by turns on days 0 and 1, slots 8 .. 11 on days 2 and 3.
        private static final int[] SLOTS = {0, 6, 1, 7, 2, 8, 3, 9, 12, 18, 13, 19};

        private final TimetableDesk desk = new TimetableDesk(5, 6);

        Row() {
            desk.room(0, 1);
            Desks.openOnly(desk, 2, 0, 30, SLOTS);
            Desks.openOnly(desk, 1, 6, 30, 5, 11, 17, 23);
            Desks.openOnly(desk, 1, 7, 30, 5, 11);
            for (int who = 0; who < 8; who++) {
                closeOthers(0, who);
            }
            for (int who = 0; who < 6; who++) {
                closeOthers(1, who);
            }
            movers();
            anchors();
        }

        private static int classOf(int mover) {
            return mover % 8;
        }

        private static int teacherOf(int mover) {
            return mover / 2;
        }

        /** Blocks the slots that no mover of that class or teacher may be in. */
        private void closeOthers(int what, int who) {
            boolean[] open = new boolean[MOVERS + 1];
            for (int mover = 0; mover < MOVERS; mover++) {
                if ((what == 0 ? classOf(mover) : teacherOf(mover)) == who) {
                    open[mover] = true;
                    open[mover + 1] = true;
                }
            }
            for (int slot = 0; slot <= MOVERS; slot++) {
                if (!open[slot]) {
                    desk.block(what, who, SLOTS[slot], true);
                }
            }
        }

        private void movers() {
            for (int mover = 0; mover < MOVERS; mover++) {
                desk.lesson(classOf(mover), -1, teacherOf(mover), 1, 11, 'm');
                int lesson = mover;
                Check.answers("mover " + mover, 0, () -> desk.place(lesson, 0, SLOTS[lesson]));
            }
        }

        private void anchors() {
            anchor(0, 2, 6, 5, 17);
            anchor(4, 6, 7, 5);
            anchor(1, 3, 6, 11, 23);
            anchor(5, 7, 7, 11);
        }

        private void anchor(int first, int second, int teacher, int... periods) {
            int lesson = desk.lesson(first, second, teacher, 0, 10 + periods.length, 'n');
            for (int i = 0; i < periods.length; i++) {
                int k = i;
                Check.answers("anchor at " + periods[i], 0, () -> desk.place(lesson, k, periods[k]));
            }
        }

        /** Whether just the last ones have moved. */
        void hasMoved(int count) {
            for (int mover = 0; mover < MOVERS; mover++) {
                isAt(desk, mover, SLOTS[mover >= MOVERS - count ? mover + 1 : mover]);
            }
        }
    }

    private static void oneRound() {
        Check.sentence("12: so many rounds: 1");
        Row row = new Row();
        row.hasMoved(0);
        int before = row.desk.penalty();
        int behind = row.desk.improve(1);
        Check.due("the penalty is less", true, behind < before);
        Check.answers("it is the penalty of the week as it is", behind, row.desk::penalty);
        row.hasMoved(1);
        Check.answers("only the 17 places are left", 17, row.desk::undo);
        row.hasMoved(0);
    }

    private static void tenRounds() {
        Check.sentence("12: so many rounds: 1 .. 10");
        for (int rounds = 2; rounds <= 10; rounds++) {
            Row row = new Row();
            row.desk.improve(rounds);
            row.hasMoved(rounds);
        }
        Row row = new Row();
        row.desk.improve(10);
        row.desk.improve(1);
        row.hasMoved(11);
        Check.answers("each of these calls is one entry", 18, row.desk::undo);
        row.hasMoved(10);
        Check.answers("ten rounds", 17, row.desk::undo);
        row.hasMoved(0);
    }

    private static void endsBehindARoundWithoutChange() {
        Check.sentence("12: it ends behind one in which nothing changed");
        for (int rounds = 1; rounds <= 10; rounds++) {
            int each = rounds;
            TimetableDesk desk = day(6);
            put(desk, 0, -1, 0, 1, 5);
            Check.answers("improve(" + rounds + ")", 0, () -> desk.improve(each));
            isAt(desk, 0, 0);
            Check.answers("once more", 0, () -> desk.improve(each));
            Check.answers("without a change it is no entry", 1, desk::undo);
            isAt(desk, 0, 5);
        }
    }

    private static void firstOfTheLeast() {
        Check.sentence("Improve: it goes to the first one of those with the least penalty");
        TimetableDesk desk = new TimetableDesk(5, 6);
        put(desk, 0, -1, 0, 1, 29);
        Check.answers("all but last periods are as good", 0, () -> desk.improve(1));
        isAt(desk, 0, 0);
        TimetableDesk beside = day(6);
        put(beside, 0, -1, 0, 1, 5);
        put(beside, 0, -1, 1, 1, 2);
        Check.answers("1 and 3 are as good, 0 and 4 are worse", 0, () -> beside.improve(1));
        isAt(beside, 0, 1);
        isAt(beside, 1, 2);
        TimetableDesk least = day(6);
        Desks.openOnly(least, 1, 0, 6, 0, 4, 5);
        put(least, 0, -1, 0, 1, 5);
        put(least, 0, -1, 1, 1, 2);
        // At 0 and at 4 there is one gap each; then the other item fills it up at 1.
        least.improve(1);
        isAt(least, 0, 0);
        isAt(least, 1, 1);
    }

    private static void gapsOfTeachersInImprove() {
        Check.sentence("Improve: the least penalty (of the week with it there): of its teacher");
        for (int teacher = 0; teacher < 8; teacher++) {
            TimetableDesk desk = day(6);
            put(desk, 1, -1, teacher, 1, 0);
            put(desk, 2, -1, teacher, 1, 3);
            Check.answers("two gaps before", 2, desk::penalty);
            Check.answers("improve", 0, () -> desk.improve(1));
            isAt(desk, 0, 2);
            isAt(desk, 1, 3);
        }
    }

    private static void gapsOfSecondClassesInImprove() {
        Check.sentence("Improve: the least penalty (of the week with it there): of both its classes");
        for (int who = 0; who < 7; who++) {
            for (int first = 0; first < 2; first++) {
                TimetableDesk desk = day(6);
                put(desk, first == 0 ? 7 : who, first == 0 ? who : 7, 4, 1, 0);
                put(desk, who, -1, 5, 1, 3);
                Check.answers("two gaps before", 4, desk::penalty);
                Check.answers("improve", 0, () -> desk.improve(1));
                isAt(desk, 0, 2);
                isAt(desk, 1, 3);
            }
        }
    }

    private static void gapsAgainstLastPeriods() {
        Check.sentence("Improve: 2 each for classes, 1 each for teachers, 3 for each item at the end");
        endsAt(4, true, 0, 2);
        endsAt(5, true, 4, 3);
        endsAt(5, false, 0, 2);
        endsAt(6, false, 0, 3);
    }

    /**
     * A mover at 0, which may go to the day's end, beside another item at the last period but one,
     * of its class or of its teacher, which can't go anywhere.
     */
    private static void endsAt(int perDay, boolean ofClass, int due, int penalty) {
        TimetableDesk desk = day(perDay);
        Desks.openOnly(desk, 0, 0, perDay, 0, perDay - 2, perDay - 1);
        Desks.openOnly(desk, 0, 1, perDay, perDay - 2);
        desk.lesson(0, -1, 0, 0, 11, 'm');
        desk.lesson(ofClass ? 0 : 1, ofClass ? 1 : -1, ofClass ? 1 : 0, 0, 11, 'n');
        Check.answers("the mover", 0, () -> desk.place(0, 0, 0));
        Check.answers("the other", 0, () -> desk.place(1, 0, perDay - 2));
        Check.answers("improve", penalty, () -> desk.improve(10));
        isAt(desk, 0, due);
        isAt(desk, 1, perDay - 2);
    }

    private static void notLessStays() {
        Check.sentence("Improve: if that is not less than with it where it was, it stays as it was");
        for (int period = 0; period < 5; period++) {
            TimetableDesk desk = day(6);
            put(desk, 0, -1, 0, 1, period);
            Check.answers("as good as any", 0, () -> desk.improve(10));
            isAt(desk, 0, period);
            Check.answers("it is no entry", 0, desk::undo);
        }
        TimetableDesk desk = day(2);
        put(desk, 0, -1, 0, 1, 0);
        put(desk, 0, -1, 1, 1, 1);
        Check.answers("all others are worse or in use", 3, () -> desk.improve(10));
        isAt(desk, 0, 0);
        isAt(desk, 1, 1);
    }

    private static void staysWithItsRoom() {
        Check.sentence("Improve: it stays as it was (with its room)");
        TimetableDesk desk = day(3);
        put(desk, 0, -1, 0, 1, 0);
        put(desk, 1, -1, 1, 1, 0);
        put(desk, 2, -1, 2, 1, 0);
        desk.drop(0, 0);
        desk.drop(1, 0);
        Check.answers("improve", 0, () -> desk.improve(10));
        Check.answers("though rooms 0 and 1 are free", 2, () -> desk.roomOf(2, 0));
        Check.answers("it is no entry", 4, desk::undo);
        isAt(desk, 1, 0);
    }

    private static void goesWithTheLowestRoom() {
        Check.sentence("Improve: periods that break no rule (with the lowest room)");
        TimetableDesk desk = day(3);
        put(desk, 0, -1, 0, 1, 2);
        put(desk, 1, -1, 1, 1, 2);
        put(desk, 2, -1, 2, 1, 2);
        desk.block(2, 0, 0, true);
        desk.block(2, 4, 0, true);
        Check.answers("improve", 0, () -> desk.improve(1));
        for (int lesson = 0; lesson < 3; lesson++) {
            int each = lesson;
            isAt(desk, lesson, 0);
            Check.answers("room " + (lesson + 1), lesson + 1, () -> desk.roomOf(each, 0));
        }
        desk.undo();
        Check.answers("undone with its room", 2, () -> desk.roomOf(2, 0));
    }

    private static void isTakenOutFirst() {
        Check.sentence("Improve: each placed item is taken out and tries");
        TimetableDesk desk = day(6);
        Desks.leaveRooms(desk, 1);
        put(desk, 0, -1, 0, 2, 4);
        desk.block(0, 0, 2, true);
        desk.block(0, 0, 1, true);
        Check.answers("into one of its own periods, on its own day", 0, () -> desk.improve(1));
        isAt(desk, 0, 3);
        Check.due("its page", "...aa.\n", Desks.text(desk, 2, 0, 7));
    }

    private static void keepsToEachRule() {
        Check.sentence("Improve: all periods from 0 on that break no rule");
        TimetableDesk desk = new TimetableDesk(2, 6);
        desk.lesson(0, 1, 0, 0, 22, 'x');
        Desks.leaveRooms(desk, 1);
        Check.answers("its other item", 0, () -> desk.place(0, 1, 6));
        Check.answers("at the end of a day", 0, () -> desk.place(0, 0, 4));
        desk.block(1, 0, 0, true);
        desk.block(0, 1, 2, true);
        desk.block(2, 0, 3, true);
        // 0: the teacher; 1 and 2: the second class; 3: the room; 5: the day's end; 6 on: the same day.
        Check.answers("there is no other period", 3, () -> desk.improve(10));
        isAt(desk, 0, 4);
        desk.block(0, 1, 2, false);
        Check.answers("now there is one", 0, () -> desk.improve(10));
        isAt(desk, 0, 1);
        TimetableDesk busy = day(4);
        busy.lesson(0, -1, 0, 0, 11, 'x');
        busy.lesson(1, -1, 0, 0, 11, 'y');
        busy.lesson(0, -1, 1, 0, 11, 'z');
        busy.block(0, 0, 0, true);
        busy.block(1, 1, 0, true);
        busy.place(0, 0, 3);
        busy.place(1, 0, 1);
        busy.place(2, 0, 2);
        // 0: the class; 1: the teacher's other item; 2: the class's other item.
        Check.answers("the first one stays", 3 + 1, busy::penalty);
        busy.improve(1);
        isAt(busy, 0, 3);
    }

    private static void inOrder() {
        Check.sentence("Improve: each placed item, in order");
        TimetableDesk desk = day(4);
        Desks.leaveRooms(desk, 1);
        desk.block(2, 0, 0, true);
        desk.block(2, 0, 1, true);
        Desks.plain(desk, 0, 0, 11);
        Desks.plain(desk, 1, 1, 11);
        desk.place(1, 0, 2);
        desk.place(0, 0, 3);
        Check.answers("the second one is in the way", 3, () -> desk.improve(10));
        desk.block(2, 0, 1, false);
        // The first one goes to 1; the second one is well where it is.
        Check.answers("improve(1)", 0, () -> desk.improve(1));
        isAt(desk, 0, 1);
        isAt(desk, 1, 2);
        TimetableDesk both = new TimetableDesk(2, 2);
        Desks.leaveRooms(both, 1);
        both.block(2, 0, 2, true);
        Desks.plain(both, 0, 0, 11);
        Desks.plain(both, 1, 1, 11);
        both.place(0, 0, 3);
        both.place(1, 0, 1);
        Check.answers("just one of them finds a better period", 3, () -> both.improve(10));
        isAt(both, 0, 0);
        isAt(both, 1, 1);
        TimetableDesk numbers = new TimetableDesk(2, 2);
        Desks.leaveRooms(numbers, 1);
        numbers.block(2, 0, 2, true);
        Desks.plain(numbers, 0, 0, 12);
        numbers.place(0, 0, 3);
        numbers.place(0, 1, 1);
        Check.answers("of one lesson the first one may not go to the other's day", 3, () -> numbers.improve(10));
        isAt(numbers, 0, 3);
        Check.answers("but the other one may go to 0", 0, () -> numbers.period(0, 1));
    }

    private static void itemsThatAreNotPlaced() {
        Check.sentence("Improve: each placed item, and no other");
        TimetableDesk desk = new TimetableDesk(2, 3);
        Desks.plain(desk, 0, 0, 12);
        desk.place(0, 1, 2);
        Check.answers("improve", 0, () -> desk.improve(10));
        isAt(desk, 0, -1);
        Check.answers("the placed one", 0, () -> desk.period(0, 1));
    }

    private static void nowhereElse() {
        Check.sentence("Improve: it stays as it was when there is no other period");
        TimetableDesk desk = day(1);
        put(desk, 0, -1, 0, 1, 0);
        Check.answers("a week of one period", 3, () -> desk.improve(10));
        isAt(desk, 0, 0);
        Check.answers("it is no entry", 0, desk::undo);
    }

    private static void stayingAgainstALaterBlock() {
        Check.sentence("Improve: it stays as it was, also where it could not be placed any more");
        TimetableDesk desk = day(3);
        put(desk, 0, -1, 0, 1, 1);
        desk.drop(0, 0);
        desk.block(1, 0, 1, true);
        desk.block(2, 0, 1, true);
        desk.room(0, 2);
        desk.undo();
        Check.answers("nothing is less", 0, () -> desk.improve(10));
        isAt(desk, 0, 1);
        Check.answers("with its room of another kind", 0, () -> desk.roomOf(0, 0));
        Check.answers("it is no entry", 0, desk::undo);
    }
}
