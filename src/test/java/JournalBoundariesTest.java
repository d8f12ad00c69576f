import java.util.ArrayDeque;
import java.util.Deque;
import java.util.function.Consumer;

/** The boundary cases of undo, of refused calls and of an object's last call, a sentence at a time. */
public final class JournalBoundariesTest {
    private static final int KEPT = 20;

    public static void main(String[] args) {
        emptyJournal();
        callsThatAreNoEntries();
        howManyAreLeft();
        latestTwenty();
        twentyFirst();
        roundAndRound();
        undoIsNoEntry();
        entriesOfEachKind();
        laterBlocks();
        laterKinds();
        laterLessons();
        blocksAndKindsStay();
        triesAndSubstitutesStay();
        refusedCalls();
        refusedLessonsWhenFull();
        refusedUndo();
        lastCalls();
        Check.end();
    }

    private static TimetableDesk oneItem(int days, int perDay) {
        TimetableDesk desk = new TimetableDesk(days, perDay);
        Desks.plain(desk, 0, 0, 11);
        return desk;
    }

    /** One change: the item goes in at the change's period, or out. */
    private static void change(TimetableDesk desk, int number) {
        if (number % 2 == 0) {
            desk.place(0, 0, number / 2 % 30);
        } else {
            desk.drop(0, 0);
        }
    }

    /** Where the item is before a change. */
    private static int before(int number) {
        return number % 2 == 0 ? -1 : number / 2 % 30;
    }

    private static void emptyJournal() {
        Check.sentence("15: IllegalStateException: there is none");
        TimetableDesk desk = oneItem(5, 6);
        Check.refusesState("at first", desk::undo);
        change(desk, 0);
        Check.answers("the only one", 0, desk::undo);
        Check.refusesState("none is left", desk::undo);
        Check.refusesState("and none comes", desk::undo);
        change(desk, 0);
        Check.answers("one more", 0, desk::undo);
    }

    private static void callsThatAreNoEntries() {
        Check.sentence("The journal: each call that changed something is one entry");
        TimetableDesk desk = oneItem(1, 3);
        desk.room(5, 2);
        desk.block(0, 0, 0, true);
        desk.block(0, 0, 1, true);
        Check.answers("a broken rule", 4, () -> desk.place(0, 0, 0));
        Check.answers("a budget that is not enough", 2, () -> desk.fill(2));
        desk.block(0, 0, 2, true);
        Check.answers("impossible", 0, () -> desk.fill(20000));
        desk.block(0, 0, 2, false);
        Check.answers("nothing to better", 0, () -> desk.improve(10));
        desk.absent(0, 0);
        desk.page(0, 0, 0);
        Check.refusesState("none of these is one", desk::undo);
        Check.answers("fill", 1, () -> desk.fill(3));
        Check.answers("nothing to fill", 1, () -> desk.fill(1));
        Check.answers("nowhere to go", 3, () -> desk.improve(10));
        Check.refusesState("a refused place", () -> desk.place(0, 0, 0));
        Check.answers("just the fill is one", 0, desk::undo);
        Check.answers("and is undone", -1, () -> desk.period(0, 0));
    }

    private static void howManyAreLeft() {
        Check.sentence("15: takes the latest entry of the journal back: how many are left");
        for (int count = 1; count <= KEPT; count++) {
            TimetableDesk desk = oneItem(5, 6);
            for (int number = 0; number < count; number++) {
                change(desk, number);
            }
            undoAll(desk, count, count);
        }
    }

    /** Undoes the latest changes of so many in all, and asks for one more. */
    private static void undoAll(TimetableDesk desk, int changes, int kept) {
        for (int i = 1; i <= kept; i++) {
            int number = changes - i;
            Check.answers("undo " + i + " of " + kept, kept - i, desk::undo);
            Check.answers("the period before change " + number, before(number), () -> desk.period(0, 0));
            Check.answers("the room before change " + number, before(number) < 0 ? -1 : 0, () -> desk.roomOf(0, 0));
        }
        Check.refusesState("undo " + (kept + 1) + " of " + kept, desk::undo);
    }

    private static void latestTwenty() {
        Check.sentence("The journal: the latest 20 are kept");
        for (int count = KEPT; count <= 65; count++) {
            TimetableDesk desk = oneItem(5, 6);
            for (int number = 0; number < count; number++) {
                change(desk, number);
            }
            undoAll(desk, count, KEPT);
            Check.answers("what is older stays", before(count - KEPT), () -> desk.period(0, 0));
        }
    }

    private static void twentyFirst() {
        Check.sentence("The journal: with 20 entries, a call that changes nothing drives none out");
        TimetableDesk desk = oneItem(5, 6);
        for (int number = 0; number < KEPT + 1; number++) {
            change(desk, number);
        }
        desk.fill(20000);
        desk.improve(10);
        Check.refusesState("place", () -> desk.place(0, 0, 3));
        Desks.plain(desk, 0, 0, 11);
        Check.answers("a broken rule", 3, () -> desk.place(1, 0, before(KEPT + 1)));
        desk.lesson(1, -1, 1, 2, 11, 'n');
        Check.answers("impossible", 0, () -> desk.fill(20000));
        Check.answers("not enough", 2, () -> desk.fill(1));
        undoAll(desk, KEPT + 1, KEPT);
    }

    /** Goes many times round the kept entries, now and then undoing some, beside a plain list. */
    private static void roundAndRound() {
        Check.sentence("The journal: the latest 20 are kept, behind undos too");
        for (int undos = 1; undos <= KEPT; undos++) {
            TimetableDesk desk = oneItem(5, 6);
            Deque<Integer> model = new ArrayDeque<>();
            int at = -1;
            int step = 0;
            for (int turn = 0; turn < 6; turn++) {
                for (int i = 0; i < 7 + 5 * turn; i++) {
                    model.addLast(at);
                    if (model.size() > KEPT) {
                        model.removeFirst();
                    }
                    at = at < 0 ? step % 30 : -1;
                    step++;
                    moveTo(desk, at);
                }
                for (int i = 0; i < undos && !model.isEmpty(); i++) {
                    at = model.removeLast();
                    int due = at;
                    Check.answers("undo", model.size(), desk::undo);
                    Check.answers("period", due, () -> desk.period(0, 0));
                }
            }
        }
    }

    private static void moveTo(TimetableDesk desk, int period) {
        if (period < 0) {
            desk.drop(0, 0);
        } else {
            desk.place(0, 0, period);
        }
    }

    private static void undoIsNoEntry() {
        Check.sentence("The journal has what place, drop, fill and improve changed: not undo");
        TimetableDesk desk = oneItem(5, 6);
        change(desk, 0);
        change(desk, 1);
        Check.answers("undo the drop", 1, desk::undo);
        Check.answers("undo the place, not the undo", 0, desk::undo);
        Check.answers("it is out", -1, () -> desk.period(0, 0));
    }

    private static void entriesOfEachKind() {
        Check.sentence("The journal has what place, drop, fill and improve changed");
        TimetableDesk desk = new TimetableDesk(2, 3);
        desk.lesson(0, 1, 0, 0, 22, 'x');
        desk.lesson(2, -1, 1, 0, 11, 'y');
        desk.place(0, 1, 1);
        desk.place(1, 0, 1);
        desk.drop(0, 1);
        desk.fill(20000);
        String filled = state(desk, 2, 2, 1);
        desk.drop(1, 0);
        desk.place(1, 0, 5);
        String late = state(desk, 2, 2, 1);
        Check.answers("improve", 0, () -> desk.improve(1));
        Check.answers("undo improve", 6, desk::undo);
        Check.due("as before improve", late, state(desk, 2, 2, 1));
        desk.undo();
        Check.answers("undo drop", 4, desk::undo);
        Check.due("as before drop", filled, state(desk, 2, 2, 1));
        Check.answers("undo fill", 3, desk::undo);
        Check.due("as before fill", "[-1/-1 -1/-1][1/1]", state(desk, 2, 2, 1));
        Check.answers("undo drop", 2, desk::undo);
        Check.due("as before drop", "[-1/-1 1/0][1/1]", state(desk, 2, 2, 1));
        Check.answers("undo place", 1, desk::undo);
        Check.due("as before place", "[-1/-1 1/0][-1/-1]", state(desk, 2, 2, 1));
    }

    /** Periods and rooms of the items of the first lessons, told by their times. */
    private static String state(TimetableDesk desk, int lessons, int... times) {
        StringBuilder text = new StringBuilder();
        for (int lesson = 0; lesson < lessons; lesson++) {
            for (int k = 0; k < times[lesson]; k++) {
                text.append(k == 0 ? "[" : " ").append(desk.period(lesson, k));
                text.append("/").append(desk.roomOf(lesson, k));
            }
            text.append("]");
        }
        return text.toString();
    }

    private static void laterBlocks() {
        Check.sentence("15: (blocks that came later do not matter)");
        for (int what = 0; what < 3; what++) {
            TimetableDesk desk = oneItem(1, 3);
            desk.place(0, 0, 1);
            desk.drop(0, 0);
            desk.block(what, 0, 1, true);
            Check.answers("undo", 1, desk::undo);
            Check.due("it is back", "[1/0]", state(desk, 1, 1));
            int user = what;
            Check.answers("it is on the page", 'a', () -> desk.page(user, 0, 1));
            Check.refusesState("it has an item there", () -> desk.block(user, 0, 1, true));
            desk.drop(0, 0);
            Check.answers("the block is still there", new int[] {4, 2, 0}[what], () -> desk.place(0, 0, 1));
        }
        TimetableDesk filled = oneItem(1, 3);
        filled.fill(1);
        filled.drop(0, 0);
        filled.block(1, 0, 0, true);
        filled.undo();
        Check.due("filled in, dropped and back", "[0/0]", state(filled, 1, 1));
        Check.answers("undo fill", 0, filled::undo);
        Check.due("out", "[-1/-1]", state(filled, 1, 1));
    }

    private static void laterKinds() {
        Check.sentence("15: (rooms that came later do not matter)");
        TimetableDesk desk = oneItem(1, 3);
        desk.place(0, 0, 2);
        desk.improve(1);
        desk.drop(0, 0);
        desk.room(0, 1);
        Check.answers("undo drop", 2, desk::undo);
        Check.due("it is back in its room", "[0/0]", state(desk, 1, 1));
        Check.refusesState("an item has the room", () -> desk.room(0, 0));
        Check.answers("undo improve", 1, desk::undo);
        Check.due("it is back in its room", "[2/0]", state(desk, 1, 1));
        desk.drop(0, 0);
        Check.answers("the room has its later kind", 0, () -> desk.place(0, 0, 0));
        Check.due("so it gets another", "[0/1]", state(desk, 1, 1));
    }

    private static void laterLessons() {
        Check.sentence("15: lessons that came later stay, and are not placed");
        TimetableDesk desk = oneItem(1, 3);
        desk.place(0, 0, 0);
        for (int i = 1; i < 16; i++) {
            Desks.plain(desk, 1, 1, 14);
        }
        Check.answers("place the last one", 0, () -> desk.place(15, 3, 2));
        Check.answers("undo it", 1, desk::undo);
        Check.answers("it is out", -1, () -> desk.period(15, 3));
        Check.answers("undo the first", 0, desk::undo);
        Check.answers("the last one is still there", 0, () -> desk.place(15, 3, 2));
        Check.refusesState("there are still 16", () -> Desks.plain(desk, 0, 0, 11));
    }

    private static void blocksAndKindsStay() {
        Check.sentence("15: takes an entry back, and neither blocks nor kinds");
        TimetableDesk desk = oneItem(1, 3);
        desk.place(0, 0, 0);
        desk.block(1, 0, 1, true);
        desk.block(2, 0, 2, true);
        desk.room(1, 2);
        desk.undo();
        Check.answers("the block stays", 2, () -> desk.place(0, 0, 1));
        Check.answers("room 0 is blocked, room 1 of another kind", 0, () -> desk.place(0, 0, 2));
        Check.due("so it gets room 2", "[2/2]", state(desk, 1, 1));
    }

    private static void triesAndSubstitutesStay() {
        Check.sentence("15: takes an entry back, and neither tries nor substitutes");
        TimetableDesk desk = oneItem(1, 3);
        desk.block(0, 0, 0, true);
        desk.fill(20000);
        desk.absent(0, 0);
        desk.undo();
        Check.answers("tries", 2, desk::tries);
        Check.answers("substitute", 1, () -> desk.substitute(0));
    }

    /** A desk with something of everything. */
    private static TimetableDesk sample() {
        TimetableDesk desk = new TimetableDesk(2, 3);
        desk.room(5, 1);
        desk.room(4, 2);
        desk.lesson(0, -1, 0, 0, 12, 'a');
        desk.lesson(1, 2, 1, 0, 21, 'b');
        desk.lesson(0, -1, 1, 1, 11, 'c');
        desk.lesson(3, -1, 2, 0, 11, 'd');
        desk.block(1, 2, 0, true);
        desk.block(0, 3, 1, true);
        desk.block(2, 0, 2, true);
        desk.place(0, 0, 0);
        desk.place(1, 0, 3);
        desk.place(2, 0, 5);
        desk.drop(2, 0);
        desk.place(2, 0, 1);
        desk.fill(3);
        desk.absent(1, 1);
        return desk;
    }

    /** All that a sample's calls tell, its journal and its blocks too: it is used up then. */
    private static String tellAll(TimetableDesk desk) {
        StringBuilder text = new StringBuilder();
        text.append(state(desk, 4, 2, 1, 1, 1));
        text.append(" penalty ").append(desk.penalty()).append(" tries ").append(desk.tries());
        text.append(" substitutes ").append(Check.outcome(() -> desk.substitute(0)));
        text.append(" ").append(Check.outcome(() -> desk.substitute(1)));
        text.append("\n").append(Desks.text(desk, 0, 0, 8)).append(Desks.text(desk, 1, 1, 8));
        String left;
        do {
            left = Check.outcome(desk::undo);
            text.append(left).append(state(desk, 4, 2, 1, 1, 1));
        } while (!left.startsWith("throws"));
        for (int lesson = 0; lesson < 4; lesson++) {
            for (int period = 0; period < 6; period++) {
                int rule = desk.place(lesson, 0, period);
                text.append(" ").append(rule).append("/").append(desk.roomOf(lesson, 0));
                if (rule == 0) {
                    desk.drop(lesson, 0);
                }
            }
        }
        text.append(" next lesson ").append(desk.lesson(0, -1, 0, 1, 11, 'e'));
        desk.place(4, 0, 0);
        return text.append(" room ").append(desk.roomOf(4, 0)).toString();
    }

    private static void refuses(String exception, String call, Consumer<TimetableDesk> asks) {
        TimetableDesk desk = sample();
        Check.due(call, "throws " + exception, Check.outcome(() -> {
            asks.accept(desk);
            return 0;
        }));
        Check.due("all behind " + call, tellAll(sample()), tellAll(desk));
    }

    private static void refusesArgument(String call, Consumer<TimetableDesk> asks) {
        refuses("IllegalArgumentException", call, asks);
    }

    private static void refusesState(String call, Consumer<TimetableDesk> asks) {
        refuses("IllegalStateException", call, asks);
    }

    private static void refusesIndex(String call, Consumer<TimetableDesk> asks) {
        refuses("IndexOutOfBoundsException", call, asks);
    }

    private static void refusedCalls() {
        Check.sentence("A refused call changes nothing");
        refusesArgument("room(6, 1)", desk -> desk.room(6, 1));
        refusesArgument("room(1, 3)", desk -> desk.room(1, 3));
        refusesState("room(0, 1)", desk -> desk.room(0, 1));
        refusesState("room(5, 0)", desk -> desk.room(5, 0));
        refusesArgument("lesson of a wrong class", desk -> desk.lesson(8, -1, 0, 0, 11, 'e'));
        refusesArgument("lesson of the same classes", desk -> desk.lesson(0, 0, 0, 0, 11, 'e'));
        refusesArgument("lesson of a wrong teacher", desk -> desk.lesson(0, -1, 8, 0, 11, 'e'));
        refusesArgument("lesson of a wrong kind", desk -> desk.lesson(0, -1, 0, 3, 11, 'e'));
        refusesArgument("lesson of a wrong shape", desk -> desk.lesson(0, -1, 0, 0, 15, 'e'));
        refusesArgument("lesson of a wrong subject", desk -> desk.lesson(0, -1, 0, 0, 11, 127));
        refusesArgument("block(3, 0, 0, true)", desk -> desk.block(3, 0, 0, true));
        refusesArgument("block(1, 8, 0, true)", desk -> desk.block(1, 8, 0, true));
        refusesArgument("block(1, 0, 6, true)", desk -> desk.block(1, 0, 6, true));
        refusesArgument("block(0, 8, 0, false)", desk -> desk.block(0, 8, 0, false));
        refusesState("block(0, 2, 4, true)", desk -> desk.block(0, 2, 4, true));
        refusesState("block(1, 1, 4, true)", desk -> desk.block(1, 1, 4, true));
        refusesState("block(2, 0, 0, true)", desk -> desk.block(2, 0, 0, true));
        refusesArgument("place(4, 0, 0)", desk -> desk.place(4, 0, 0));
        refusesArgument("place(0, 2, 0)", desk -> desk.place(0, 2, 0));
        refusesArgument("place(0, 1, 6)", desk -> desk.place(0, 1, 6));
        refusesState("place(0, 0, 1)", desk -> desk.place(0, 0, 1));
        refusesArgument("drop(4, 0)", desk -> desk.drop(4, 0));
        refusesArgument("drop(0, 2)", desk -> desk.drop(0, 2));
        refusesState("drop(0, 1)", desk -> desk.drop(0, 1));
        refusesArgument("fill(0)", desk -> desk.fill(0));
        refusesArgument("fill(20001)", desk -> desk.fill(20001));
        refusesArgument("period(0, 2)", desk -> desk.period(0, 2));
        refusesArgument("roomOf(4, 0)", desk -> desk.roomOf(4, 0));
        refusesArgument("improve(0)", desk -> desk.improve(0));
        refusesArgument("improve(11)", desk -> desk.improve(11));
        refusesArgument("absent(8, 0)", desk -> desk.absent(8, 0));
        refusesArgument("absent(0, 2)", desk -> desk.absent(0, 2));
        refusesIndex("substitute(1)", desk -> desk.substitute(1));
        refusesIndex("substitute(-1)", desk -> desk.substitute(-1));
        refusesArgument("page(3, 0, 0)", desk -> desk.page(3, 0, 0));
        refusesIndex("page(0, 0, 8)", desk -> desk.page(0, 0, 8));
    }

    private static void refusedLessonsWhenFull() {
        Check.sentence("3: IllegalStateException: there are 16, and they stay as they are");
        TimetableDesk desk = new TimetableDesk(1, 2);
        for (int i = 0; i < 16; i++) {
            desk.lesson(i % 8, -1, i % 8, 0, 11, 'A' + i);
        }
        Check.refusesState("one too many", () -> desk.lesson(7, 6, 5, 1, 24, '!'));
        for (int i = 0; i < 16; i++) {
            int lesson = i;
            Check.answers("place", 0, () -> desk.place(lesson, 0, 0));
            Check.answers("its letter", 'A' + i, () -> desk.page(0, lesson % 8, 0));
            Check.answers("its teacher", 'A' + i, () -> desk.page(1, lesson % 8, 0));
            desk.drop(i, 0);
        }
    }

    private static void refusedUndo() {
        Check.sentence("15: IllegalStateException: there is none, and nothing changes");
        TimetableDesk desk = oneItem(5, 6);
        for (int number = 0; number < KEPT + 1; number++) {
            change(desk, number);
        }
        for (int i = 0; i < KEPT; i++) {
            desk.undo();
        }
        Check.due("the oldest one that is known", "[0/0]", state(desk, 1, 1));
        for (int i = 0; i < 3; i++) {
            Check.refusesState("none is left", desk::undo);
            Check.due("it stays", "[0/0]", state(desk, 1, 1));
        }
        desk.drop(0, 0);
        Check.answers("one entry", 0, desk::undo);
        Check.due("it is back", "[0/0]", state(desk, 1, 1));
    }

    private static void lastCalls() {
        Check.sentence("An object is used for at most 512 calls");
        TimetableDesk desk = oneItem(5, 6);
        for (int number = 0; number < 491; number++) {
            change(desk, number);
        }
        for (int left = KEPT - 1; left >= 0; left--) {
            Check.answers("call " + (512 - left), left, desk::undo);
        }
        TimetableDesk asked = oneItem(5, 6);
        for (int number = 0; number < 510; number++) {
            change(asked, number);
        }
        Check.answers("call 512", -1, () -> asked.period(0, 0));
        TimetableDesk filled = oneItem(5, 6);
        for (int call = 1; call < 510; call += 2) {
            Check.answers("call " + (call + 1), 1, () -> filled.fill(20000));
            Check.answers("call " + (call + 2), 0, () -> filled.undo());
        }
        Check.answers("call 512", 1, () -> filled.fill(1));
    }
}
