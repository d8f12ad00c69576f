import java.util.ArrayDeque;
import java.util.ArrayList;
import java.util.Arrays;
import java.util.Deque;
import java.util.HashSet;
import java.util.List;
import java.util.Set;

/**
 * The document's words once more, as slowly and plainly as they can be said: nothing is kept
 * that can be worked out from the list of items. Tests compare TimetableDesk with it.
 */
final class NaiveDesk {
    private static final class Lesson {
        int first;
        int second;
        int teacher;
        int kind;
        int length;
        int subject;
        final List<Item> items = new ArrayList<>();
    }

    private static final class Item {
        final Lesson lesson;
        int period = -1;
        int room = -1;

        Item(Lesson lesson) {
            this.lesson = lesson;
        }

        boolean isAt(int p) {
            return period >= 0 && (p == period || lesson.length == 2 && p == period + 1);
        }

        boolean has(int what, int who) {
            switch (what) {
                case 0:
                    return lesson.first == who || lesson.second == who;
                case 1:
                    return lesson.teacher == who;
                default:
                    return room == who;
            }
        }
    }

    private static final class BudgetSpent extends RuntimeException {
        private static final long serialVersionUID = 1L;
    }

    private static final int[] WHO = {8, 8, 6};

    private final int days;
    private final int perDay;
    private final List<Lesson> lessons = new ArrayList<>();
    private final List<Item> items = new ArrayList<>();
    private final int[] kinds = new int[6];
    private final Set<List<Integer>> blocks = new HashSet<>();
    private final Deque<int[]> journal = new ArrayDeque<>();
    private List<Integer> substitutes = new ArrayList<>();
    private int tries = 0;
    private int budgetLeft;

    NaiveDesk(int days, int perDay) {
        this.days = days < 1 || days > 5 ? 5 : days;
        this.perDay = perDay < 1 || perDay > 6 ? 6 : perDay;
    }

    void room(int room, int kind) {
        need(room >= 0 && room < 6 && kind >= 0 && kind < 3);
        for (Item item : items) {
            needState(item.room != room);
        }
        kinds[room] = kind;
    }

    int lesson(int first, int second, int teacher, int kind, int shape, int subject) {
        need(first >= 0 && first < 8 && second >= -1 && second < 8 && first != second);
        need(teacher >= 0 && teacher < 8 && kind >= 0 && kind < 3);
        need(shape >= 11 && shape <= 14 || shape >= 21 && shape <= 24);
        need(subject >= 33 && subject <= 126);
        needState(lessons.size() < 16);
        Lesson lesson = new Lesson();
        lesson.first = first;
        lesson.second = second;
        lesson.teacher = teacher;
        lesson.kind = kind;
        lesson.length = shape < 20 ? 1 : 2;
        lesson.subject = subject;
        for (int k = 0; k < shape - 10 * lesson.length; k++) {
            lesson.items.add(new Item(lesson));
        }
        lessons.add(lesson);
        items.addAll(lesson.items);
        return lessons.size() - 1;
    }

    void block(int what, int who, int period, boolean on) {
        need(what >= 0 && what < 3 && who >= 0 && who < WHO[what]);
        need(period >= 0 && period < days * perDay);
        List<Integer> block = List.of(what, who, period);
        if (!on) {
            blocks.remove(block);
            return;
        }
        needState(itemAt(what, who, period) == null);
        blocks.add(block);
    }

    int place(int lesson, int k, int period) {
        Item item = item(lesson, k);
        need(period >= 0 && period < days * perDay);
        needState(item.period < 0);
        int[] before = state();
        int rule = put(item, period);
        keep(before);
        return rule;
    }

    int drop(int lesson, int k) {
        Item item = item(lesson, k);
        needState(item.period >= 0);
        int[] before = state();
        int where = item.period;
        takeOut(item);
        keep(before);
        return where;
    }

    int fill(int budget) {
        need(budget >= 1 && budget <= 20000);
        int[] before = state();
        List<Item> open = new ArrayList<>();
        for (Item item : items) {
            if (item.period < 0) {
                open.add(item);
            }
        }
        budgetLeft = budget;
        int answer;
        try {
            answer = placeFrom(open, 0) ? 1 : 0;
        } catch (BudgetSpent e) {
            restore(before);
            answer = 2;
        }
        tries = budget - budgetLeft;
        keep(before);
        return answer;
    }

    private boolean placeFrom(List<Item> open, int at) {
        if (at == open.size()) {
            return true;
        }
        Item item = open.get(at);
        int start = 0;
        for (int i = 0; i < at; i++) {
            if (open.get(i).lesson == item.lesson) {
                start = open.get(i).period + 1;
            }
        }
        for (int p = start; p < days * perDay; p++) {
            if (budgetLeft == 0) {
                throw new BudgetSpent();
            }
            budgetLeft--;
            if (put(item, p) == 0) {
                if (placeFrom(open, at + 1)) {
                    return true;
                }
                takeOut(item);
            }
        }
        return false;
    }

    int tries() {
        return tries;
    }

    int period(int lesson, int k) {
        return item(lesson, k).period;
    }

    int roomOf(int lesson, int k) {
        return item(lesson, k).room;
    }

    int penalty() {
        int sum = 0;
        for (int day = 0; day < days; day++) {
            for (int who = 0; who < 8; who++) {
                sum += 2 * gaps(0, who, day) + gaps(1, who, day);
            }
            for (Item item : items) {
                sum += item.isAt(day * perDay + perDay - 1) ? 3 : 0;
            }
        }
        return sum;
    }

    private int gaps(int what, int who, int day) {
        int sum = 0;
        int since = -1;
        for (int p = day * perDay; p < (day + 1) * perDay; p++) {
            if (itemAt(what, who, p) != null) {
                sum += since < 0 ? 0 : p - since - 1;
                since = p;
            }
        }
        return sum;
    }

    int improve(int rounds) {
        need(rounds >= 1 && rounds <= 10);
        int[] before = state();
        boolean changed = true;
        for (int round = 0; round < rounds && changed; round++) {
            changed = false;
            for (Item item : items) {
                changed |= item.period >= 0 && better(item);
            }
        }
        keep(before);
        return penalty();
    }

    private boolean better(Item item) {
        int[] old = {item.period, item.room};
        int oldPenalty = penalty();
        int best = -1;
        int least = Integer.MAX_VALUE;
        takeOut(item);
        for (int p = 0; p < days * perDay; p++) {
            if (put(item, p) == 0) {
                if (penalty() < least) {
                    least = penalty();
                    best = p;
                }
                takeOut(item);
            }
        }
        if (best >= 0 && least < oldPenalty) {
            put(item, best);
            return true;
        }
        item.period = old[0];
        item.room = old[1];
        return false;
    }

    int absent(int teacher, int day) {
        need(teacher >= 0 && teacher < 8 && day >= 0 && day < days);
        List<Integer> found = new ArrayList<>();
        int[] load = new int[8];
        for (Item item : items) {
            if (item.period >= 0 && item.period / perDay == day) {
                load[item.lesson.teacher]++;
            }
        }
        for (int p = day * perDay; p < (day + 1) * perDay; p++) {
            Item item = itemAt(1, teacher, p);
            if (item != null && item.period == p) {
                int best = -1;
                for (int who = 7; who >= 0; who--) {
                    if (who != teacher && isFree(who, item) && (best < 0 || load[who] <= load[best])) {
                        best = who;
                    }
                }
                if (best >= 0) {
                    load[best]++;
                }
                found.add(best);
            }
        }
        substitutes = found;
        return found.size();
    }

    private boolean isFree(int teacher, Item item) {
        for (int p = item.period; p < item.period + item.lesson.length; p++) {
            if (isBlocked(1, teacher, p) || itemAt(1, teacher, p) != null) {
                return false;
            }
        }
        return true;
    }

    int substitute(int i) {
        if (i < 0 || i >= substitutes.size()) {
            throw new IndexOutOfBoundsException();
        }
        return substitutes.get(i);
    }

    int undo() {
        needState(!journal.isEmpty());
        restore(journal.removeLast());
        return journal.size();
    }

    int page(int what, int who, int i) {
        need(what >= 0 && what < 3 && who >= 0 && who < WHO[what]);
        StringBuilder text = new StringBuilder();
        for (int day = 0; day < days; day++) {
            for (int p = day * perDay; p < (day + 1) * perDay; p++) {
                Item item = itemAt(what, who, p);
                text.append(item == null ? '.' : (char) item.lesson.subject);
            }
            text.append('\n');
        }
        if (i < 0 || i >= text.length()) {
            throw new IndexOutOfBoundsException();
        }
        return text.charAt(i);
    }

    private int put(Item item, int period) {
        Lesson lesson = item.lesson;
        if (lesson.length == 2 && period % perDay + 2 > perDay) {
            return 1;
        }
        boolean[] broken = new boolean[8];
        for (int p = period; p < period + lesson.length; p++) {
            broken[2] |= isBlocked(1, lesson.teacher, p);
            broken[3] |= itemAt(1, lesson.teacher, p) != null;
            for (int who : new int[] {lesson.first, lesson.second}) {
                broken[4] |= who >= 0 && isBlocked(0, who, p);
                broken[5] |= who >= 0 && itemAt(0, who, p) != null;
            }
        }
        for (Item other : lesson.items) {
            broken[6] |= other.period >= 0 && other.period / perDay == period / perDay;
        }
        int room = freeRoom(lesson, period);
        broken[7] = room < 0;
        for (int rule = 2; rule < 8; rule++) {
            if (broken[rule]) {
                return rule;
            }
        }
        item.period = period;
        item.room = room;
        return 0;
    }

    private int freeRoom(Lesson lesson, int period) {
        for (int room = 0; room < 6; room++) {
            boolean free = kinds[room] == lesson.kind;
            for (int p = period; p < period + lesson.length; p++) {
                free &= !isBlocked(2, room, p) && itemAt(2, room, p) == null;
            }
            if (free) {
                return room;
            }
        }
        return -1;
    }

    private static void takeOut(Item item) {
        item.period = -1;
        item.room = -1;
    }

    private boolean isBlocked(int what, int who, int period) {
        return blocks.contains(List.of(what, who, period));
    }

    private Item itemAt(int what, int who, int period) {
        for (Item item : items) {
            if (item.isAt(period) && item.has(what, who)) {
                return item;
            }
        }
        return null;
    }

    private Item item(int lesson, int k) {
        need(lesson >= 0 && lesson < lessons.size());
        need(k >= 0 && k < lessons.get(lesson).items.size());
        return lessons.get(lesson).items.get(k);
    }

    /** Period and room of each item; lessons that came later have no items in it. */
    private int[] state() {
        int[] row = new int[2 * items.size()];
        for (int i = 0; i < items.size(); i++) {
            row[2 * i] = items.get(i).period;
            row[2 * i + 1] = items.get(i).room;
        }
        return row;
    }

    private void restore(int[] row) {
        for (int i = 0; i < items.size(); i++) {
            items.get(i).period = 2 * i < row.length ? row[2 * i] : -1;
            items.get(i).room = 2 * i < row.length ? row[2 * i + 1] : -1;
        }
    }

    private void keep(int[] before) {
        if (!Arrays.equals(before, state())) {
            journal.addLast(before);
            if (journal.size() > 20) {
                journal.removeFirst();
            }
        }
    }

    private static void need(boolean so) {
        if (!so) {
            throw new IllegalArgumentException();
        }
    }

    private static void needState(boolean so) {
        if (!so) {
            throw new IllegalStateException();
        }
    }
}
