import java.util.Arrays;

/** The boundary cases of absent, substitute and page, a sentence at a time. */
public final class DayBoundariesTest {
    private static final int[] LAST_WHO = {7, 7, 5};

    public static void main(String[] args) {
        noSuchTeacher();
        noSuchDay();
        noItems();
        fullDay();
        itemsOfThatDay();
        longItemsCountOnce();
        noSubstituteBeforeACall();
        noSuchSubstitute();
        fewerThanBefore();
        refusedAbsent();
        inTheOrderOfPeriods();
        otherTeachersAlone();
        notBlocked();
        noItemInItsPeriods();
        fewestItems();
        fewestOfThatDay();
        substitutionsOfThisCall();
        lowestOfTheSame();
        nobody();
        substitutesAreNotPlaced();
        noSuchWhat();
        noSuchWho();
        noSuchCharacter();
        argumentBeforeIndex();
        emptyPage();
        fullPage();
        subjectsAtTheEnds();
        pageOfASecondClass();
        longItemsOnPages();
        lineEnds();
        Check.end();
    }

    private static int put(TimetableDesk desk, int who, int teacher, int length, int period) {
        int lesson = Desks.plain(desk, who, teacher, 10 * length + 1);
        Check.answers("place at " + period, 0, () -> desk.place(lesson, 0, period));
        return lesson;
    }

    /** Asks for the substitutes and for nothing behind the last one. */
    private static void finds(String what, TimetableDesk desk, int teacher, int day, int... due) {
        Check.answers(what + ": absent", due.length, () -> desk.absent(teacher, day));
        for (int i = 0; i < due.length; i++) {
            int each = i;
            Check.answers(what + ": substitute(" + i + ")", due[i], () -> desk.substitute(each));
        }
        Check.refusesIndex(what + ": a substitute too many", () -> desk.substitute(due.length));
    }

    private static void noSuchTeacher() {
        Check.sentence("13: IllegalArgumentException: no such teacher");
        TimetableDesk desk = new TimetableDesk(1, 1);
        for (int teacher : new int[] {-1, 8, Desks.FAR, Desks.FAR_BELOW}) {
            Check.refusesArgument("absent(" + teacher + ", 0)", () -> desk.absent(teacher, 0));
        }
        Check.answers("the first", 0, () -> desk.absent(0, 0));
        Check.answers("the last", 0, () -> desk.absent(7, 0));
    }

    private static void noSuchDay() {
        Check.sentence("13: IllegalArgumentException: no such day");
        for (int days = 1; days <= 5; days++) {
            TimetableDesk desk = new TimetableDesk(days, 6);
            int behind = days;
            for (int day : new int[] {-1, days, days + 1, 6, Desks.FAR, Desks.FAR_BELOW}) {
                Check.refusesArgument("absent(0, " + day + ")", () -> desk.absent(0, day));
            }
            Check.answers("the last one", 0, () -> desk.absent(0, behind - 1));
        }
    }

    private static void noItems() {
        Check.sentence("13: how many items the teacher has on that day: none");
        TimetableDesk desk = new TimetableDesk(2, 6);
        finds("no lessons", desk, 0, 0);
        put(desk, 0, 1, 1, 0);
        Desks.plain(desk, 0, 0, 11);
        finds("a teacher whose item is not placed", desk, 0, 0);
        finds("the other day of a teacher", desk, 1, 1);
    }

    private static void fullDay() {
        Check.sentence("13: how many items the teacher has on that day: all periods of it");
        TimetableDesk desk = new TimetableDesk(5, 6);
        for (int period = 24; period < 30; period++) {
            put(desk, 0, 7, 1, period);
        }
        finds("six items", desk, 7, 4, 0, 1, 2, 3, 4, 5);
        finds("none the day before", desk, 7, 3);
        TimetableDesk one = new TimetableDesk(5, 1);
        put(one, 0, 7, 1, 4);
        finds("days of one period", one, 7, 4, 0);
    }

    private static void itemsOfThatDay() {
        Check.sentence("13: items on that day, not on the days beside it");
        TimetableDesk desk = new TimetableDesk(3, 3);
        put(desk, 0, 0, 1, 2);
        put(desk, 1, 0, 1, 3);
        put(desk, 0, 0, 1, 5);
        put(desk, 0, 0, 1, 6);
        finds("the first day", desk, 0, 0, 1);
        finds("the second day", desk, 0, 1, 1, 2);
        finds("the third day", desk, 0, 2, 1);
    }

    private static void longItemsCountOnce() {
        Check.sentence("13: how many items, of two periods too");
        TimetableDesk desk = new TimetableDesk(1, 6);
        put(desk, 0, 0, 2, 4);
        finds("one", desk, 0, 0, 1);
        put(desk, 0, 0, 2, 0);
        put(desk, 0, 0, 2, 2);
        finds("three", desk, 0, 0, 1, 2, 3);
    }

    private static void noSubstituteBeforeACall() {
        Check.sentence("14: IndexOutOfBoundsException: there is none such, before any absent");
        TimetableDesk desk = new TimetableDesk(1, 1);
        put(desk, 0, 0, 1, 0);
        for (int i : new int[] {0, 1, -1, Desks.FAR, Desks.FAR_BELOW}) {
            Check.refusesIndex("substitute(" + i + ")", () -> desk.substitute(i));
        }
    }

    private static void noSuchSubstitute() {
        Check.sentence("14: IndexOutOfBoundsException: there is none such");
        TimetableDesk desk = new TimetableDesk(1, 6);
        for (int period = 0; period < 6; period++) {
            finds(period + " items", desk, 0, 0, new int[] {1, 2, 3, 4, 5, 6}, period);
            for (int i : new int[] {-1, period, 6, 7, Desks.FAR, Desks.FAR_BELOW}) {
                Check.refusesIndex("substitute(" + i + ")", () -> desk.substitute(i));
            }
            put(desk, 0, 0, 1, period);
        }
    }

    private static void finds(String what, TimetableDesk desk, int teacher, int day, int[] due, int count) {
        finds(what, desk, teacher, day, Arrays.copyOf(due, count));
    }

    private static void fewerThanBefore() {
        Check.sentence("14: the i-th of these items: those of the latest absent");
        TimetableDesk desk = new TimetableDesk(2, 3);
        put(desk, 0, 0, 1, 0);
        put(desk, 0, 0, 1, 1);
        put(desk, 1, 1, 1, 3);
        finds("two", desk, 0, 0, 1, 2);
        desk.drop(0, 0);
        Check.answers("found before the drop", 1, () -> desk.substitute(0));
        Check.answers("found before the drop", 2, () -> desk.substitute(1));
        desk.undo();
        finds("one of another teacher", desk, 1, 1, 0);
        finds("none", desk, 2, 1);
        finds("two again", desk, 0, 0, 1, 2);
    }

    private static void refusedAbsent() {
        Check.sentence("13: a refused absent finds none");
        TimetableDesk desk = new TimetableDesk(2, 3);
        put(desk, 0, 0, 1, 0);
        finds("one", desk, 0, 0, 1);
        Check.refusesArgument("absent(8, 0)", () -> desk.absent(8, 0));
        Check.refusesArgument("absent(0, 2)", () -> desk.absent(0, 2));
        Check.answers("the one that was found before", 1, () -> desk.substitute(0));
        Check.refusesIndex("and no other", () -> desk.substitute(1));
    }

    private static void inTheOrderOfPeriods() {
        Check.sentence("Substitutes: for each of the teacher's items on that day, in the order of periods");
        TimetableDesk desk = new TimetableDesk(1, 6);
        put(desk, 0, 0, 1, 5);
        put(desk, 0, 0, 2, 3);
        put(desk, 0, 0, 1, 0);
        desk.block(1, 1, 0, true);
        desk.block(1, 2, 4, true);
        // At 0: 2 (1 is blocked). At 3, 4: 1 has none. At 5: 3 has none.
        finds("against the order of lessons", desk, 0, 0, 2, 1, 3);
    }

    private static void otherTeachersAlone() {
        Check.sentence("Substitutes: of the other teachers");
        for (int teacher = 0; teacher < 8; teacher++) {
            TimetableDesk desk = new TimetableDesk(1, 1);
            put(desk, 0, teacher, 1, 0);
            finds("teacher " + teacher, desk, teacher, 0, teacher == 0 ? 1 : 0);
            for (int who = 0; who < 7; who++) {
                if (who != teacher) {
                    desk.block(1, who, 0, true);
                }
            }
            finds("the last teacher is left", desk, teacher, 0, teacher == 7 ? -1 : 7);
        }
    }

    private static void notBlocked() {
        Check.sentence("Substitutes: that are not blocked in its periods");
        for (int period = 0; period < 6; period++) {
            TimetableDesk desk = new TimetableDesk(1, 6);
            put(desk, 0, 7, 2, 2);
            desk.block(1, 0, period, true);
            finds("teacher 0 is blocked in " + period, desk, 7, 0, period == 2 || period == 3 ? 1 : 0);
            desk.block(1, 0, period, false);
            finds("and no more", desk, 7, 0, 0);
        }
    }

    private static void noItemInItsPeriods() {
        Check.sentence("Substitutes: that have no item in its periods");
        for (int period = 0; period < 6; period++) {
            TimetableDesk desk = new TimetableDesk(1, 6);
            put(desk, 0, 7, 2, 2);
            for (int who = 1; who < 7; who++) {
                desk.block(1, who, 2, true);
            }
            put(desk, 1, 0, 1, period);
            finds("teacher 0 has an item in " + period, desk, 7, 0, period == 2 || period == 3 ? -1 : 0);
        }
        for (int period = 0; period < 5; period++) {
            TimetableDesk desk = new TimetableDesk(1, 6);
            put(desk, 0, 7, 2, 2);
            for (int who = 1; who < 7; who++) {
                desk.block(1, who, 3, true);
            }
            put(desk, 1, 0, 2, period);
            finds("two periods from " + period + " on", desk, 7, 0, period >= 1 && period <= 3 ? -1 : 0);
        }
    }

    private static void fewestItems() {
        Check.sentence("Substitutes: the one with the fewest items on that day");
        TimetableDesk desk = new TimetableDesk(1, 6);
        put(desk, 0, 0, 1, 0);
        // A long item is one item: teacher 1 has two short ones, teacher 2 one long one.
        put(desk, 1, 1, 1, 1);
        put(desk, 1, 1, 1, 2);
        put(desk, 2, 2, 2, 1);
        for (int who = 3; who < 8; who++) {
            desk.block(1, who, 0, true);
        }
        finds("one item of two periods", desk, 0, 0, 2);
        desk.block(1, 7, 0, false);
        finds("the last one has none", desk, 0, 0, 7);
    }

    private static void fewestOfThatDay() {
        Check.sentence("Substitutes: the fewest items on that day, not in the week");
        TimetableDesk desk = new TimetableDesk(3, 2);
        put(desk, 0, 0, 1, 2);
        put(desk, 1, 1, 1, 0);
        put(desk, 1, 1, 1, 1);
        put(desk, 1, 1, 1, 4);
        put(desk, 2, 2, 1, 3);
        for (int who = 3; who < 8; who++) {
            desk.block(1, who, 2, true);
        }
        finds("1 has items on the days beside it", desk, 0, 1, 1);
    }

    private static void substitutionsOfThisCall() {
        Check.sentence("Substitutes: (substitutions of this call counted)");
        TimetableDesk desk = new TimetableDesk(1, 6);
        for (int period = 0; period < 6; period++) {
            put(desk, 0, 0, 1, period);
        }
        for (int who = 3; who < 8; who++) {
            Desks.openOnly(desk, 1, who, 6);
        }
        finds("two by turns", desk, 0, 0, 1, 2, 1, 2, 1, 2);
        finds("those of another call are not counted", desk, 0, 0, 1, 2, 1, 2, 1, 2);
        TimetableDesk loaded = new TimetableDesk(1, 6);
        put(loaded, 1, 1, 1, 5);
        for (int period = 0; period < 4; period++) {
            put(loaded, 0, 0, 1, period);
        }
        for (int who = 3; who < 8; who++) {
            Desks.openOnly(loaded, 1, who, 6);
        }
        // 2 first, then both have one: 1; then 2, then both have two: 1.
        finds("one item and substitutions", loaded, 0, 0, 2, 1, 2, 1);
    }

    private static void lowestOfTheSame() {
        Check.sentence("Substitutes: of the same ones the lowest");
        TimetableDesk desk = new TimetableDesk(1, 2);
        put(desk, 0, 0, 1, 0);
        for (int who = 1; who < 7; who++) {
            finds("all have none", desk, 0, 0, who);
            desk.block(1, who, 0, true);
        }
        finds("the last one", desk, 0, 0, 7);
    }

    private static void nobody() {
        Check.sentence("Substitutes: -1 if there is none");
        TimetableDesk desk = new TimetableDesk(1, 3);
        put(desk, 0, 0, 2, 0);
        put(desk, 0, 0, 1, 2);
        for (int who = 1; who < 8; who++) {
            desk.block(1, who, who % 2, true);
        }
        finds("nobody for the first", desk, 0, 0, -1, 1);
        for (int who = 1; who < 8; who++) {
            desk.block(1, who, 2, true);
        }
        finds("nobody at all", desk, 0, 0, -1, -1);
        TimetableDesk free = new TimetableDesk(1, 1);
        free.block(2, 0, 0, true);
        put(free, 0, 0, 1, 0);
        free.block(2, 0, 0, false);
        for (int who = 1; who < 8; who++) {
            free.block(1, who, 0, true);
        }
        finds("neither a room nor a class that is free", free, 0, 0, -1);
    }

    private static void substitutesAreNotPlaced() {
        Check.sentence("The journal has what place, drop, fill and improve changed: not absent");
        TimetableDesk desk = new TimetableDesk(1, 3);
        put(desk, 0, 0, 1, 0);
        finds("one", desk, 0, 0, 1);
        Check.due("the substitute's page", "...\n", Desks.text(desk, 1, 1, 4));
        Check.passes("the substitute can be blocked", () -> desk.block(1, 1, 0, true));
        Check.answers("the entry is that of place", 0, desk::undo);
        Check.answers("undo does not matter to it", 1, () -> desk.substitute(0));
    }

    private static void noSuchWhat() {
        Check.sentence("16: IllegalArgumentException: no such what");
        TimetableDesk desk = new TimetableDesk(1, 1);
        for (int what : new int[] {-1, 3, 4, Desks.FAR, Desks.FAR_BELOW}) {
            Check.refusesArgument("page(" + what + ", 0, 0)", () -> desk.page(what, 0, 0));
        }
        for (int what = 0; what < 3; what++) {
            int each = what;
            Check.answers("page(" + what + ", 0, 0)", '.', () -> desk.page(each, 0, 0));
        }
    }

    private static void noSuchWho() {
        Check.sentence("16: IllegalArgumentException: no such who");
        TimetableDesk desk = new TimetableDesk(1, 1);
        for (int what = 0; what < 3; what++) {
            int each = what;
            for (int who : new int[] {-1, LAST_WHO[what] + 1, Desks.FAR, Desks.FAR_BELOW}) {
                Check.refusesArgument("page(" + what + ", " + who + ", 0)", () -> desk.page(each, who, 0));
            }
            for (int i = 0; i <= LAST_WHO[what]; i++) {
                int who = i;
                Check.answers("page(" + what + ", " + who + ", 0)", '.', () -> desk.page(each, who, 0));
            }
        }
    }

    private static void noSuchCharacter() {
        Check.sentence("16: IndexOutOfBoundsException: there is none");
        for (int days = 1; days <= 5; days++) {
            for (int perDay = 1; perDay <= 6; perDay++) {
                TimetableDesk desk = new TimetableDesk(days, perDay);
                int length = days * (perDay + 1);
                for (int what = 0; what < 3; what++) {
                    int each = what;
                    int who = LAST_WHO[what];
                    for (int i : new int[] {-1, length, length + 1, Desks.FAR, Desks.FAR_BELOW}) {
                        Check.refusesIndex("character " + i, () -> desk.page(each, who, i));
                    }
                    Check.answers("the first character", '.', () -> desk.page(each, who, 0));
                    Check.answers("the last character", 10, () -> desk.page(each, who, length - 1));
                }
            }
        }
    }

    private static void argumentBeforeIndex() {
        Check.sentence("16: both no such who and no such character");
        TimetableDesk desk = new TimetableDesk(1, 1);
        Check.refusesArgument("page(3, 0, -1)", () -> desk.page(3, 0, -1));
        Check.refusesArgument("page(0, 8, 2)", () -> desk.page(0, 8, 2));
        Check.refusesArgument("page(2, 6, 2)", () -> desk.page(2, 6, 2));
    }

    private static void emptyPage() {
        Check.sentence("A page: the subject of the item that is there, or a point");
        TimetableDesk desk = new TimetableDesk(5, 6);
        for (int what = 0; what < 3; what++) {
            Check.due("empty", "......\n".repeat(5), Desks.text(desk, what, LAST_WHO[what], 35));
        }
        put(desk, 0, 0, 1, 0);
        desk.drop(0, 0);
        desk.block(0, 0, 0, true);
        Check.due("dropped and blocked", "......\n".repeat(5), Desks.text(desk, 0, 0, 35));
    }

    private static void fullPage() {
        Check.sentence("A page is D lines of P characters: all of them with items");
        TimetableDesk desk = new TimetableDesk(4, 4);
        for (int i = 0; i < 4; i++) {
            desk.lesson(7, -1, 7, 0, 14, 'A' + i);
        }
        Check.answers("fill", 1, () -> desk.fill(20000));
        String full = "ABCD\n".repeat(4);
        Check.due("class", full, Desks.text(desk, 0, 7, 20));
        Check.due("teacher", full, Desks.text(desk, 1, 7, 20));
        Check.due("room", full, Desks.text(desk, 2, 0, 20));
        Check.due("another class", "....\n".repeat(4), Desks.text(desk, 0, 6, 20));
        Check.due("another teacher", "....\n".repeat(4), Desks.text(desk, 1, 0, 20));
        Check.due("another room", "....\n".repeat(4), Desks.text(desk, 2, 1, 20));
    }

    private static void subjectsAtTheEnds() {
        Check.sentence("A page: the subject, 33 .. 126");
        TimetableDesk desk = new TimetableDesk(1, 4);
        int[] subjects = {33, 126, '.'};
        for (int i = 0; i < 3; i++) {
            int lesson = i;
            desk.lesson(0, -1, 0, 0, 11, subjects[i]);
            desk.place(i, 0, i);
            Check.answers("page", subjects[i], () -> desk.page(0, 0, lesson));
        }
    }

    private static void pageOfASecondClass() {
        Check.sentence("A page: (of a class: also as a second one)");
        TimetableDesk desk = new TimetableDesk(1, 3);
        desk.lesson(6, 7, 5, 0, 11, 'j');
        desk.lesson(5, -1, 6, 0, 11, 's');
        desk.place(0, 0, 1);
        desk.place(1, 0, 0);
        Check.due("the first", ".j.\n", Desks.text(desk, 0, 6, 4));
        Check.due("the second", ".j.\n", Desks.text(desk, 0, 7, 4));
        Check.due("another class", "s..\n", Desks.text(desk, 0, 5, 4));
        Check.due("a teacher of the second's number", "...\n", Desks.text(desk, 1, 7, 4));
        Check.due("the teacher", ".j.\n", Desks.text(desk, 1, 5, 4));
        Check.due("a lesson without a second one is on no other page", "...\n", Desks.text(desk, 0, 0, 4));
    }

    private static void longItemsOnPages() {
        Check.sentence("A page: the item that is there, in both of its periods");
        TimetableDesk desk = new TimetableDesk(2, 3);
        desk.lesson(0, -1, 0, 0, 22, 'l');
        desk.place(0, 0, 1);
        desk.place(0, 1, 4);
        for (int what = 0; what < 3; what++) {
            Check.due("to the ends of the days", ".ll\n.ll\n", Desks.text(desk, what, 0, 8));
        }
        desk.drop(0, 0);
        desk.place(0, 0, 0);
        Check.due("from the beginning", "ll.\n.ll\n", Desks.text(desk, 0, 0, 8));
    }

    private static void lineEnds() {
        Check.sentence("A page: P characters and a line end (10) each");
        for (int perDay = 1; perDay <= 6; perDay++) {
            TimetableDesk desk = new TimetableDesk(5, perDay);
            put(desk, 0, 0, 1, perDay - 1);
            put(desk, 0, 0, 1, 5 * perDay - 1);
            for (int day = 0; day < 5; day++) {
                int end = day * (perDay + 1) + perDay;
                boolean item = day % 4 == 0;
                Check.answers("the last period of day " + day, item ? 'a' : '.', () -> desk.page(0, 0, end - 1));
                Check.answers("the line end of day " + day, 10, () -> desk.page(0, 0, end));
            }
        }
    }
}
