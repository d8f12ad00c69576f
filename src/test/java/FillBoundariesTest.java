/** The boundary cases of fill and tries, a sentence at a time. */
public final class FillBoundariesTest {
    public static void main(String[] args) {
        budgetOutOfRange();
        smallestBudget();
        largestBudgetIsJustEnough();
        largestBudgetIsSpent();
        nothingToPlace();
        budgetOfOneLess();
        impossibleWithTheLastTry();
        impossibleForMoreItemsThanDays();
        impossibleIsAsBefore();
        tooDearIsAsBefore();
        tooDearBesideItemsPlacedByHand();
        lastPeriodOfTheWeek();
        startsBehindTheOneBefore();
        startsBehindALongOne();
        startsBehindTheWeek();
        otherLessonsStartAtZero();
        itemsPlacedByHandAreNotBefore();
        goesBackToTheLatest();
        goesBackWithinALesson();
        goesNotBackToItemsPlacedByHand();
        eachTryCosts();
        orderOfItems();
        allItems();
        oneEntry();
        triesAtFirst();
        triesOfTheLatest();
        triesBehindARefusedFill();
        Check.end();
    }

    private static void fills(String what, TimetableDesk desk, int budget, int answer, int tries) {
        Check.answers(what + ": fill(" + budget + ")", answer, () -> desk.fill(budget));
        Check.answers(what + ": tries()", tries, desk::tries);
    }

    private static void isAt(TimetableDesk desk, int lesson, int k, int period) {
        Check.answers("period(" + lesson + ", " + k + ")", period, () -> desk.period(lesson, k));
    }

    private static void budgetOutOfRange() {
        Check.sentence("7: with a budget (1 .. 20,000); IllegalArgumentException: it is not so");
        for (int budget : new int[] {0, -1, 20001, 20002, 65536 + 1, Desks.FAR, Desks.FAR_BELOW}) {
            TimetableDesk desk = new TimetableDesk(1, 1);
            Check.refusesArgument("nothing to place: fill(" + budget + ")", () -> desk.fill(budget));
            Desks.plain(desk, 0, 0, 11);
            Check.refusesArgument("fill(" + budget + ")", () -> desk.fill(budget));
            isAt(desk, 0, 0, -1);
            Check.refusesState("it is no entry", desk::undo);
        }
    }

    private static void smallestBudget() {
        Check.sentence("7: with a budget of 1");
        TimetableDesk desk = new TimetableDesk(1, 2);
        Desks.plain(desk, 0, 0, 11);
        fills("one try is enough", desk, 1, 1, 1);
        desk.drop(0, 0);
        desk.block(0, 0, 0, true);
        fills("one try is not enough", desk, 1, 2, 1);
        isAt(desk, 0, 0, -1);
    }

    /**
     * Four items that are not in one another's way; the last one has no room. With n periods an item
     * that can be in a of them costs n + a * (what the items behind it cost), so with n = 20 and 9, 10
     * and 10 of them this takes 20 * (1 + 9 * (1 + 10 * (1 + 10))) = 20,000 tries.
     */
    private static TimetableDesk takesTwentyThousand() {
        TimetableDesk desk = new TimetableDesk(5, 4);
        int[] open = {9, 10, 10};
        for (int i = 0; i < 3; i++) {
            Desks.plain(desk, i, i, 11);
            for (int period = open[i]; period < 20; period++) {
                desk.block(1, i, period, true);
            }
        }
        desk.lesson(3, -1, 3, 1, 11, 'n');
        return desk;
    }

    private static void largestBudgetIsJustEnough() {
        Check.sentence("7: with a budget of 20,000");
        fills("all of it to the last try", takesTwentyThousand(), 20000, 0, 20000);
        fills("one less", takesTwentyThousand(), 19999, 2, 19999);
    }

    private static void largestBudgetIsSpent() {
        Check.sentence("7: 2 the budget was not enough");
        TimetableDesk desk = new TimetableDesk(5, 6);
        for (int i = 0; i < 15; i++) {
            Desks.plain(desk, i % 8, i % 7, 14);
        }
        desk.lesson(7, -1, 7, 2, 11, 'n');
        fills("a search without an end", desk, 20000, 2, 20000);
        for (int i = 0; i < 15; i++) {
            isAt(desk, i, 0, -1);
            isAt(desk, i, 3, -1);
        }
        Check.refusesState("it is no entry", desk::undo);
        Check.answers("all is as before", 0, desk::penalty);
        desk.room(5, 2);
        Check.answers("with the room that was missing", 1, () -> desk.fill(20000));
    }

    private static void nothingToPlace() {
        Check.sentence("7: 1 all are placed, when there is nothing to place");
        TimetableDesk desk = new TimetableDesk(1, 1);
        fills("no lessons", desk, 1, 1, 0);
        fills("no lessons", desk, 20000, 1, 0);
        Check.refusesState("it is no entry", desk::undo);
        Desks.plain(desk, 0, 0, 11);
        desk.place(0, 0, 0);
        fills("all placed by hand", desk, 1, 1, 0);
        Check.answers("the entry is that of place", 0, desk::undo);
        isAt(desk, 0, 0, -1);
    }

    private static void budgetOfOneLess() {
        Check.sentence("Fill: when there is none left before a try, all is as before the search");
        for (int open = 0; open < 6; open++) {
            TimetableDesk desk = new TimetableDesk(2, 3);
            Desks.plain(desk, 0, 0, 11);
            Desks.openOnly(desk, 1, 0, 6, open);
            if (open > 0) {
                fills("a budget of one less", desk, open, 2, open);
                isAt(desk, 0, 0, -1);
            }
            fills("a budget of just that", desk, open + 1, 1, open + 1);
            isAt(desk, 0, 0, open);
        }
    }

    private static void impossibleWithTheLastTry() {
        Check.sentence("7: 0 it is impossible");
        TimetableDesk desk = new TimetableDesk(2, 3);
        desk.lesson(0, -1, 0, 2, 11, 'n');
        fills("a try too few", desk, 5, 2, 5);
        fills("the last try", desk, 6, 0, 6);
        fills("tries to spare", desk, 7, 0, 6);
    }

    private static void impossibleForMoreItemsThanDays() {
        Check.sentence("7: 0 it is impossible, for two items on one day");
        TimetableDesk desk = new TimetableDesk(1, 1);
        Desks.plain(desk, 0, 0, 12);
        // Item 0 is at 0, and for item 1 there is no period behind it.
        fills("one period", desk, 20000, 0, 1);
        TimetableDesk three = new TimetableDesk(3, 1);
        Desks.plain(three, 0, 0, 14);
        // Items 0, 1, 2 at 0, 1, 2 and back: 1 + 1 + 1, then 1 at 2, then 0 at 1, 1 at 2, 0 at 2.
        fills("three days", three, 20000, 0, 7);
        isAt(three, 0, 0, -1);
        TimetableDesk four = new TimetableDesk(4, 1);
        Desks.plain(four, 0, 0, 14);
        fills("four days", four, 20000, 1, 4);
        isAt(four, 0, 3, 3);
    }

    /** Two items placed by hand, and room 0 of period 0 in use no more. */
    private static TimetableDesk halfPlaced() {
        TimetableDesk desk = new TimetableDesk(2, 3);
        desk.lesson(0, 1, 0, 0, 22, 'p');
        desk.lesson(2, -1, 1, 0, 11, 'q');
        desk.lesson(3, -1, 2, 0, 11, 'r');
        desk.lesson(4, -1, 3, 2, 11, 'n');
        desk.place(2, 0, 0);
        desk.place(1, 0, 0);
        desk.place(0, 1, 4);
        desk.drop(2, 0);
        return desk;
    }

    private static void isHalfPlaced(TimetableDesk desk) {
        isAt(desk, 0, 0, -1);
        isAt(desk, 0, 1, 4);
        isAt(desk, 1, 0, 0);
        isAt(desk, 2, 0, -1);
        isAt(desk, 3, 0, -1);
        Check.answers("room of an item placed by hand", 1, () -> desk.roomOf(1, 0));
        Check.answers("room of an item placed by hand", 0, () -> desk.roomOf(0, 1));
        Check.answers("room of an item that is not placed", -1, () -> desk.roomOf(0, 0));
        Check.due("page of class 1", "...\n.pp\n", Desks.text(desk, 0, 1, 8));
        Check.due("page of room 0", "...\n.pp\n", Desks.text(desk, 2, 0, 8));
        Check.due("page of room 1", "q..\n...\n", Desks.text(desk, 2, 1, 8));
        Check.answers("penalty", 3, desk::penalty);
        Check.passes("the room of the search is free", () -> desk.block(2, 0, 0, true));
        Check.passes("the teacher of the search is free", () -> desk.block(1, 0, 0, true));
        Check.answers("the latest entry is the drop", 3, desk::undo);
        isAt(desk, 2, 0, 0);
    }

    private static void impossibleIsAsBefore() {
        Check.sentence("7: 0 it is impossible (all is as before)");
        TimetableDesk desk = halfPlaced();
        Check.answers("fill", 0, () -> desk.fill(20000));
        isHalfPlaced(desk);
    }

    private static void tooDearIsAsBefore() {
        Check.sentence("Fill: when there is none left, all is as before the search");
        for (int budget = 1; budget <= 12; budget++) {
            int each = budget;
            TimetableDesk desk = halfPlaced();
            Check.answers("fill", 2, () -> desk.fill(each));
            isHalfPlaced(desk);
        }
    }

    private static void tooDearBesideItemsPlacedByHand() {
        Check.sentence("Fill: all is as before the search, in period 0 too");
        for (int who = 0; who < 8; who++) {
            TimetableDesk desk = new TimetableDesk(1, 3);
            Desks.plain(desk, who, who, 11);
            Desks.plain(desk, (who + 1) % 8, (who + 1) % 8, 11);
            Desks.plain(desk, who, who, 12);
            desk.place(0, 0, 0);
            desk.place(1, 0, 0);
            fills("items of the same class and teacher", desk, 3, 2, 3);
            for (int i = 0; i < 2; i++) {
                int each = (who + i) % 8;
                int room = i;
                Check.refusesState("the class has its item", () -> desk.block(0, each, 0, true));
                Check.refusesState("the teacher has its item", () -> desk.block(1, each, 0, true));
                Check.refusesState("the room has its item", () -> desk.block(2, room, 0, true));
                Check.passes("and none behind it", () -> desk.block(0, each, 1, true));
            }
        }
    }

    private static void lastPeriodOfTheWeek() {
        Check.sentence("Fill: each tries periods from 0 on, to the last one");
        for (int days = 1; days <= 5; days++) {
            for (int perDay = 1; perDay <= 6; perDay++) {
                int periods = days * perDay;
                TimetableDesk desk = new TimetableDesk(days, perDay);
                Desks.plain(desk, 7, 7, 11);
                Desks.openOnly(desk, 0, 7, periods, periods - 1);
                fills("all but the last one are blocked", desk, 20000, 1, periods);
                isAt(desk, 0, 0, periods - 1);
                desk.drop(0, 0);
                desk.block(0, 7, periods - 1, true);
                fills("all are blocked", desk, 20000, 0, periods);
            }
        }
    }

    private static void startsBehindTheOneBefore() {
        Check.sentence("Fill: not the first one of its lesson: from the period behind that of the one before it on");
        TimetableDesk desk = new TimetableDesk(3, 2);
        Desks.plain(desk, 0, 0, 13);
        Desks.openOnly(desk, 1, 0, 6, 1, 3, 4);
        // Item 0 at 0, 1; item 1 at 2, 3; item 2 at 4.
        fills("each behind the one before", desk, 20000, 1, 2 + 2 + 1);
        isAt(desk, 0, 0, 1);
        isAt(desk, 0, 1, 3);
        isAt(desk, 0, 2, 4);
        TimetableDesk back = new TimetableDesk(2, 1);
        Desks.plain(back, 0, 0, 12);
        back.block(1, 0, 0, true);
        // Item 0 can be at 1 alone, and then there is none left for item 1, though 0 is before it.
        fills("never before the one before", back, 20000, 0, 2);
    }

    private static void startsBehindALongOne() {
        Check.sentence("Fill: from the period behind that of the one before it on, which is the first one of two");
        TimetableDesk desk = new TimetableDesk(2, 3);
        Desks.plain(desk, 0, 0, 22);
        // Item 0 at 0; item 1 at 1 (the teacher), 2 (does not fit), 3.
        fills("two periods each", desk, 20000, 1, 1 + 3);
        isAt(desk, 0, 1, 3);
    }

    private static void startsBehindTheWeek() {
        Check.sentence("Fill: when there is none (behind the last period), the search goes back");
        TimetableDesk desk = new TimetableDesk(1, 3);
        Desks.plain(desk, 0, 0, 12);
        // 0 at 0, 1 at 1 and 2; 0 at 1, 1 at 2; 0 at 2, none for 1.
        fills("a try too few", desk, 5, 2, 5);
        fills("what has no try costs none", desk, 6, 0, 6);
    }

    private static void otherLessonsStartAtZero() {
        Check.sentence("Fill: each tries periods from 0 on, whatever the lesson before did");
        TimetableDesk desk = new TimetableDesk(2, 3);
        Desks.plain(desk, 0, 0, 12);
        Desks.plain(desk, 1, 1, 12);
        Desks.openOnly(desk, 1, 0, 6, 2, 5);
        fills("two lessons", desk, 20000, 1, 3 + 3 + 1 + 3);
        isAt(desk, 0, 0, 2);
        isAt(desk, 0, 1, 5);
        isAt(desk, 1, 0, 0);
        isAt(desk, 1, 1, 3);
    }

    private static void itemsPlacedByHandAreNotBefore() {
        Check.sentence("Fill: the first one of its lesson that is placed by this search");
        TimetableDesk desk = new TimetableDesk(3, 2);
        Desks.plain(desk, 0, 0, 13);
        desk.place(0, 0, 4);
        // Item 1 at 0; item 2 at 1 (the same day), 2.
        fills("item 0 by hand", desk, 20000, 1, 1 + 2);
        isAt(desk, 0, 1, 0);
        isAt(desk, 0, 2, 2);
        desk.drop(0, 2);
        // Alone it begins at 0: there, 1 (same day), 2.
        fills("item 2 alone", desk, 20000, 1, 3);
        isAt(desk, 0, 2, 2);
        TimetableDesk middle = new TimetableDesk(3, 2);
        Desks.plain(middle, 0, 0, 13);
        middle.place(0, 1, 2);
        // Item 0 at 0; item 2 behind it at 1, 2, 3, 4.
        fills("item 1 by hand", middle, 20000, 1, 1 + 4);
        isAt(middle, 0, 0, 0);
        isAt(middle, 0, 2, 4);
        TimetableDesk late = new TimetableDesk(3, 2);
        Desks.plain(late, 0, 0, 13);
        late.place(0, 1, 4);
        // Item 2 comes behind item 0, but before item 1.
        fills("item 1 by hand at the end", late, 20000, 1, 1 + 2);
        isAt(late, 0, 2, 2);
    }

    private static void goesBackToTheLatest() {
        Check.sentence("Fill: the search goes back to the latest item that it placed, which tries its next periods");
        TimetableDesk desk = new TimetableDesk(1, 3);
        Desks.plain(desk, 0, 0, 11);
        Desks.plain(desk, 1, 1, 11);
        Desks.plain(desk, 0, 2, 11);
        desk.block(1, 2, 1, true);
        desk.block(1, 2, 2, true);
        // 0 at 0; 1 at 0, 1, 2 with three tries of 2 for each; 0 at 1; 1 at 0; 2 at 0.
        fills("one try too few", desk, 15, 2, 15);
        fills("back to one that is not in the way first", desk, 16, 1, 1 + 3 * (1 + 3) + 1 + 1 + 1);
        isAt(desk, 0, 0, 1);
        isAt(desk, 1, 0, 0);
        isAt(desk, 2, 0, 0);
    }

    private static void goesBackWithinALesson() {
        Check.sentence("Fill: goes back to the latest item, also of the same lesson");
        TimetableDesk desk = new TimetableDesk(3, 1);
        Desks.plain(desk, 0, 0, 12);
        Desks.plain(desk, 0, 1, 11);
        desk.block(1, 1, 1, true);
        desk.block(1, 1, 2, true);
        // 0 at 0, 1 at 1, the other lesson three tries; 1 at 2, three tries; 0 at 1, 1 at 2, one try.
        fills("the last item moves first", desk, 20000, 1, 1 + (1 + 3) + (1 + 3) + 1 + 1 + 1);
        isAt(desk, 0, 0, 1);
        isAt(desk, 0, 1, 2);
        isAt(desk, 1, 0, 0);
    }

    private static void goesNotBackToItemsPlacedByHand() {
        Check.sentence("Fill: goes back to items that it placed, not to others");
        TimetableDesk desk = new TimetableDesk(1, 2);
        Desks.plain(desk, 0, 0, 11);
        Desks.plain(desk, 0, 1, 11);
        desk.block(1, 1, 1, true);
        desk.place(0, 0, 0);
        fills("it would do with the other in 1", desk, 20000, 0, 2);
        isAt(desk, 0, 0, 0);
        isAt(desk, 1, 0, -1);
        desk.drop(0, 0);
        fills("which the search can do", desk, 20000, 1, 1 + 2 + 1 + 1);
        isAt(desk, 0, 0, 1);
        isAt(desk, 1, 0, 0);
    }

    private static void eachTryCosts() {
        Check.sentence("Fill: each period that is tried costs 1 of the budget, whatever rule it breaks");
        TimetableDesk desk = new TimetableDesk(2, 6);
        desk.lesson(0, -1, 0, 0, 22, 'x');
        Desks.plain(desk, 1, 0, 11);
        Desks.plain(desk, 0, 1, 11);
        Desks.leaveRooms(desk, 1);
        desk.place(0, 1, 4);
        desk.block(0, 0, 6, true);
        desk.block(1, 0, 7, true);
        desk.place(1, 0, 8);
        desk.block(2, 0, 9, true);
        desk.place(2, 0, 0);
        // 0 .. 5: another item or the same day or the day's end; 6 .. 9: each a rule; 10 is free.
        fills("one item", desk, 20000, 1, 11);
        isAt(desk, 0, 0, 10);
    }

    private static void orderOfItems() {
        Check.sentence("Fill: the items that are not placed, in order of lessons, then numbers");
        TimetableDesk desk = new TimetableDesk(2, 2);
        for (int i = 0; i < 2; i++) {
            Desks.plain(desk, 0, 0, 12);
        }
        // (0, 0) at 0; (0, 1) at 1, 2; (1, 0) at 0, 1; (1, 1) at 2, 3.
        fills("two lessons of a class", desk, 20000, 1, 1 + 2 + 2 + 2);
        isAt(desk, 0, 0, 0);
        isAt(desk, 0, 1, 2);
        isAt(desk, 1, 0, 1);
        isAt(desk, 1, 1, 3);
    }

    private static void allItems() {
        Check.sentence("Fill: all items of 16 lessons of 4 times");
        TimetableDesk desk = new TimetableDesk(4, 6);
        for (int i = 0; i < 16; i++) {
            Desks.plain(desk, i % 8, i % 8, 14);
        }
        Check.answers("fill", 1, () -> desk.fill(20000));
        for (int i = 0; i < 16; i++) {
            for (int k = 0; k < 4; k++) {
                // Six rooms: six lessons in a period; the seventh goes on to the next one.
                isAt(desk, i, k, 6 * k + i / 6);
            }
        }
        Check.answers("all are one entry", 0, desk::undo);
        isAt(desk, 15, 3, -1);
        isAt(desk, 0, 0, -1);
    }

    private static void oneEntry() {
        Check.sentence("The journal: each call (of fill) that changed something is one entry");
        TimetableDesk desk = new TimetableDesk(2, 2);
        Desks.plain(desk, 0, 0, 12);
        desk.place(0, 1, 3);
        desk.fill(20000);
        Check.answers("undo fill", 1, desk::undo);
        isAt(desk, 0, 0, -1);
        isAt(desk, 0, 1, 3);
        Check.answers("undo place", 0, desk::undo);
    }

    private static void triesAtFirst() {
        Check.sentence("8: how many tries the latest fill took, before there was one");
        TimetableDesk desk = new TimetableDesk(1, 1);
        Check.answers("tries", 0, desk::tries);
        Desks.plain(desk, 0, 0, 11);
        desk.place(0, 0, 0);
        desk.improve(1);
        Check.answers("other calls are no tries", 0, desk::tries);
    }

    private static void triesOfTheLatest() {
        Check.sentence("8: how many tries the latest fill took");
        TimetableDesk desk = new TimetableDesk(1, 6);
        Desks.plain(desk, 0, 0, 11);
        Desks.openOnly(desk, 0, 0, 6, 4);
        fills("not enough", desk, 3, 2, 3);
        fills("enough", desk, 20000, 1, 5);
        desk.drop(0, 0);
        desk.undo();
        desk.undo();
        desk.place(0, 0, 4);
        desk.improve(10);
        Check.answers("nothing else changes it", 5, desk::tries);
        fills("nothing to place", desk, 20000, 1, 0);
    }

    private static void triesBehindARefusedFill() {
        Check.sentence("8: a refused fill takes no tries and is not the latest one");
        TimetableDesk desk = new TimetableDesk(1, 6);
        Desks.plain(desk, 0, 0, 11);
        fills("a fill", desk, 20000, 1, 1);
        Check.refusesArgument("fill(0)", () -> desk.fill(0));
        Check.refusesArgument("fill(20001)", () -> desk.fill(20001));
        Check.answers("tries", 1, desk::tries);
    }
}
