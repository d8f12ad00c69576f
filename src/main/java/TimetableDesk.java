import java.util.Arrays;

/** A school's timetable; the document's numbered promises say what each call answers. */
public final class TimetableDesk {

    private static final int MOST_DAYS = 5;
    private static final int MOST_PER_DAY = 6;
    private static final int CLASSES = 8;
    private static final int TEACHERS = 8;
    private static final int ROOMS = 6;
    private static final int KINDS = 3;

    private static final int MOST_LESSONS = 16;
    private static final int MOST_LENGTH = 2;
    private static final int MOST_TIMES = 4;
    private static final int ITEMS = MOST_LESSONS * MOST_TIMES;
    private static final int LOWEST_SUBJECT = 33;
    private static final int HIGHEST_SUBJECT = 126;

    private static final int CLASS = 0;
    private static final int TEACHER = 1;
    private static final int ROOM = 2;

    // Classes, teachers and rooms are USERS of periods and share one row, in this order.
    private static final int FIRST_TEACHER = CLASSES;
    private static final int FIRST_ROOM = CLASSES + TEACHERS;
    private static final int USERS = CLASSES + TEACHERS + ROOMS;

    private static final int NONE = -1;

    private static final int DOES_NOT_FIT = 1;
    private static final int TEACHER_BLOCKED = 2;
    private static final int TEACHER_BUSY = 3;
    private static final int CLASS_BLOCKED = 4;
    private static final int CLASS_BUSY = 5;
    private static final int SAME_DAY = 6;
    private static final int NO_ROOM = 7;

    private static final int IMPOSSIBLE = 0;
    private static final int ALL_PLACED = 1;
    private static final int TOO_DEAR = 2;
    private static final int MOST_BUDGET = 20000;

    // A turn of a search is a try or takes a try's item out again: 2 * MOST_BUDGET and a few.
    private static final int MOST_TURNS = 100000;

    private static final int MOST_ROUNDS = 10;
    private static final int TEACHER_GAP = 1;
    private static final int CLASS_GAP = 2;
    private static final int LAST_PERIOD = 3;

    private static final int MOST_ENTRIES = 20;

    private static final int LINE_END = 10;
    private static final int POINT = '.';

    private final Board board;
    private final Search search = new Search();
    private final Cover cover = new Cover();
    private final Journal journal = new Journal();

    public TimetableDesk(int days, int perDay) {
        board = new Board(
                isWithin(days, 1, MOST_DAYS) ? days : MOST_DAYS,
                isWithin(perDay, 1, MOST_PER_DAY) ? perDay : MOST_PER_DAY);
    }

    public void room(int room, int kind) throws IllegalArgumentException, IllegalStateException {
        if (!isWithin(room, 0, ROOMS - 1) || !isWithin(kind, 0, KINDS - 1)) {
            throw new IllegalArgumentException("no such room or kind");
        }
        if (board.busy[FIRST_ROOM + room] != 0) {
            throw new IllegalStateException("an item has the room");
        }
        board.kinds[room] = kind;
    }

    public int lesson(int first, int second, int teacher, int kind, int shape, int subject)
            throws IllegalArgumentException, IllegalStateException {
        if (!isWithin(first, 0, CLASSES - 1) || !isWithin(second, NONE, CLASSES - 1) || first == second) {
            throw new IllegalArgumentException("no such classes");
        }
        if (!isWithin(teacher, 0, TEACHERS - 1) || !isWithin(kind, 0, KINDS - 1)) {
            throw new IllegalArgumentException("no such teacher or kind");
        }
        if (!isWithin(shape / 10, 1, MOST_LENGTH) || !isWithin(shape % 10, 1, MOST_TIMES)) {
            throw new IllegalArgumentException("no such shape");
        }
        if (!isWithin(subject, LOWEST_SUBJECT, HIGHEST_SUBJECT)) {
            throw new IllegalArgumentException("no such subject");
        }
        if (board.lessons.count >= MOST_LESSONS) {
            throw new IllegalStateException("no more lessons");
        }
        return board.lessons.add(first, second, teacher, kind, shape, subject);
    }

    public void block(int what, int who, int period, boolean on) throws IllegalArgumentException, IllegalStateException {
        if (!isUser(what, who) || !isWithin(period, 0, board.periods - 1)) {
            throw new IllegalArgumentException("no such what, who or period");
        }
        int user = userOf(what, who);
        int bit = 1 << period;
        if (on && (board.busy[user] & bit) != 0) {
            throw new IllegalStateException("it has an item there");
        }
        if (on) {
            board.blocked[user] |= bit;
        } else {
            board.blocked[user] &= ~bit;
        }
    }

    public int place(int lesson, int k, int period) throws IllegalArgumentException, IllegalStateException {
        if (!board.lessons.hasItem(lesson, k) || !isWithin(period, 0, board.periods - 1)) {
            throw new IllegalArgumentException("no such item or period");
        }
        int item = itemOf(lesson, k);
        if (board.isPlaced(item)) {
            throw new IllegalStateException("the item is placed");
        }
        journal.draw(board.spots);
        int rule = board.putByRules(item, period);
        if (rule == 0) {
            journal.keep();
        }
        return rule;
    }

    public int drop(int lesson, int k) throws IllegalArgumentException, IllegalStateException {
        if (!board.lessons.hasItem(lesson, k)) {
            throw new IllegalArgumentException("no such item");
        }
        int item = itemOf(lesson, k);
        if (!board.isPlaced(item)) {
            throw new IllegalStateException("the item is not placed");
        }
        int where = board.periodOfItem(item);
        journal.draw(board.spots);
        board.takeOut(item);
        journal.keep();
        return where;
    }

    public int fill(int budget) throws IllegalArgumentException {
        if (!isWithin(budget, 1, MOST_BUDGET)) {
            throw new IllegalArgumentException("no such budget");
        }
        journal.draw(board.spots);
        int answer = search.run(board, budget);
        if (answer == ALL_PLACED && search.queued > 0) {
            journal.keep();
        }
        return answer;
    }

    public int tries() {
        return search.tried;
    }

    public int period(int lesson, int k) throws IllegalArgumentException {
        if (!board.lessons.hasItem(lesson, k)) {
            throw new IllegalArgumentException("no such item");
        }
        return board.periodOfItem(itemOf(lesson, k));
    }

    public int roomOf(int lesson, int k) throws IllegalArgumentException {
        if (!board.lessons.hasItem(lesson, k)) {
            throw new IllegalArgumentException("no such item");
        }
        return board.roomOfItem(itemOf(lesson, k));
    }

    public int penalty() {
        return board.weekPenalty();
    }

    public int improve(int rounds) throws IllegalArgumentException {
        if (!isWithin(rounds, 1, MOST_ROUNDS)) {
            throw new IllegalArgumentException("no such number of rounds");
        }
        journal.draw(board.spots);
        boolean changed = false;
        for (int round = 0; round < rounds; round++) {
            if (!board.betterAll()) {
                break;
            }
            changed = true;
        }
        if (changed) {
            journal.keep();
        }
        return board.weekPenalty();
    }

    public int absent(int teacher, int day) throws IllegalArgumentException {
        if (!isWithin(teacher, 0, TEACHERS - 1) || !isWithin(day, 0, board.days - 1)) {
            throw new IllegalArgumentException("no such teacher or day");
        }
        cover.find(board, teacher, day);
        return cover.count;
    }

    public int substitute(int i) throws IndexOutOfBoundsException {
        if (!isWithin(i, 0, cover.count - 1)) {
            throw new IndexOutOfBoundsException("no such item");
        }
        return cover.given[i];
    }

    public int undo() throws IllegalStateException {
        if (journal.count == 0) {
            throw new IllegalStateException("the journal is empty");
        }
        journal.takeBack(board.spots);
        board.markAllAgain();
        return journal.count;
    }

    public int page(int what, int who, int i) throws IllegalArgumentException, IndexOutOfBoundsException {
        if (!isUser(what, who)) {
            throw new IllegalArgumentException("no such what or who");
        }
        int width = board.perDay + 1;
        if (!isWithin(i, 0, board.days * width - 1)) {
            throw new IndexOutOfBoundsException("no such character");
        }
        int column = i % width;
        if (column == board.perDay) {
            return LINE_END;
        }
        return board.letterAt(userOf(what, who), i / width * board.perDay + column);
    }

    private static boolean isWithin(int value, int lowest, int highest) {
        return value >= lowest && value <= highest;
    }

    private static boolean isUser(int what, int who) {
        switch (what) {
            case CLASS:
                return isWithin(who, 0, CLASSES - 1);
            case TEACHER:
                return isWithin(who, 0, TEACHERS - 1);
            case ROOM:
                return isWithin(who, 0, ROOMS - 1);
            default:
                return false;
        }
    }

    private static int userOf(int what, int who) {
        if (what == ROOM) {
            return FIRST_ROOM + who;
        }
        return what == TEACHER ? FIRST_TEACHER + who : who;
    }

    private static int itemOf(int lesson, int k) {
        return lesson * MOST_TIMES + k;
    }

    private static int lessonOf(int item) {
        return item / MOST_TIMES;
    }

    /** The lessons, a column for each of their properties. */
    private static final class Lessons {
        private final int[] first = new int[MOST_LESSONS];
        private final int[] second = new int[MOST_LESSONS];
        private final int[] teacher = new int[MOST_LESSONS];
        private final int[] kind = new int[MOST_LESSONS];
        private final int[] length = new int[MOST_LESSONS];
        private final int[] times = new int[MOST_LESSONS];
        private final int[] subject = new int[MOST_LESSONS];
        private int count;

        private int add(int one, int other, int who, int roomKind, int shape, int letter) {
            int number = count;
            first[number] = one;
            second[number] = other;
            teacher[number] = who;
            kind[number] = roomKind;
            length[number] = shape / 10;
            times[number] = shape % 10;
            subject[number] = letter;
            count++;
            return number;
        }

        private boolean hasItem(int lesson, int k) {
            return isWithin(lesson, 0, count - 1) && isWithin(k, 0, times[lesson] - 1);
        }

        private int bitsAt(int lesson, int from) {
            return length[lesson] == MOST_LENGTH ? 3 << from : 1 << from;
        }
    }

    /**
     * The week with what is placed in it. A week has at most 30 periods, so a set of
     * periods is an int with bit p for period p.
     */
    private static final class Board {
        private final int days;
        private final int perDay;
        private final int periods;
        private final int firstPeriods;
        private final int lastPeriods;
        private final Lessons lessons = new Lessons();
        private final int[] kinds = new int[ROOMS];
        private final int[] blocked = new int[USERS];
        private final int[] busy = new int[USERS];
        // An item's spot is its period * ROOMS + its room: one row is all that a journal copies.
        private final int[] spots = new int[ITEMS];

        private Board(int days, int perDay) {
            this.days = days;
            this.perDay = perDay;
            periods = days * perDay;
            int firsts = 0;
            for (int day = 0; day < days; day++) {
                firsts |= 1 << (day * perDay);
            }
            firstPeriods = firsts;
            lastPeriods = firsts << (perDay - 1);
            Arrays.fill(spots, NONE);
        }

        private boolean isPlaced(int item) {
            return spots[item] != NONE;
        }

        private int periodOfItem(int item) {
            return isPlaced(item) ? spots[item] / ROOMS : NONE;
        }

        private int roomOfItem(int item) {
            return isPlaced(item) ? spots[item] % ROOMS : NONE;
        }

        private int bitsOfItem(int item) {
            return isPlaced(item) ? lessons.bitsAt(lessonOf(item), spots[item] / ROOMS) : 0;
        }

        private boolean isOnDay(int item, int day) {
            return spots[item] != NONE && spots[item] / ROOMS / perDay == day;
        }

        private void putAt(int item, int spot) {
            spots[item] = spot;
            mark(item);
        }

        private void mark(int item) {
            int lesson = lessonOf(item);
            int bits = lessons.bitsAt(lesson, spots[item] / ROOMS);
            busy[FIRST_ROOM + spots[item] % ROOMS] |= bits;
            busy[FIRST_TEACHER + lessons.teacher[lesson]] |= bits;
            busy[lessons.first[lesson]] |= bits;
            if (lessons.second[lesson] != NONE) {
                busy[lessons.second[lesson]] |= bits;
            }
        }

        private void takeOut(int item) {
            int lesson = lessonOf(item);
            int others = ~lessons.bitsAt(lesson, spots[item] / ROOMS);
            busy[FIRST_ROOM + spots[item] % ROOMS] &= others;
            busy[FIRST_TEACHER + lessons.teacher[lesson]] &= others;
            busy[lessons.first[lesson]] &= others;
            if (lessons.second[lesson] != NONE) {
                busy[lessons.second[lesson]] &= others;
            }
            spots[item] = NONE;
        }

        private void markAllAgain() {
            Arrays.fill(busy, 0);
            for (int item = 0; item < ITEMS; item++) {
                if (isPlaced(item)) {
                    mark(item);
                }
            }
        }

        /** Puts an item that is not placed into the lowest room, or answers the broken rule. */
        private int putByRules(int item, int from) {
            int rule = brokenRule(item, from);
            if (rule == 0) {
                putAt(item, from * ROOMS + lowestRoom(lessonOf(item), from));
            }
            return rule;
        }

        /** The first rule that an item that is not placed would break, or 0. */
        private int brokenRule(int item, int from) {
            int lesson = lessonOf(item);
            if (lessons.length[lesson] == MOST_LENGTH && from % perDay == perDay - 1) {
                return DOES_NOT_FIT;
            }
            int bits = lessons.bitsAt(lesson, from);
            int teacher = FIRST_TEACHER + lessons.teacher[lesson];
            if ((blocked[teacher] & bits) != 0) {
                return TEACHER_BLOCKED;
            }
            if ((busy[teacher] & bits) != 0) {
                return TEACHER_BUSY;
            }
            if ((eitherClass(blocked, lesson) & bits) != 0) {
                return CLASS_BLOCKED;
            }
            if ((eitherClass(busy, lesson) & bits) != 0) {
                return CLASS_BUSY;
            }
            if (isLessonOnDay(lesson, from / perDay)) {
                return SAME_DAY;
            }
            return lowestRoom(lesson, from) == NONE ? NO_ROOM : 0;
        }

        private int eitherClass(int[] row, int lesson) {
            int second = lessons.second[lesson];
            return row[lessons.first[lesson]] | (second == NONE ? 0 : row[second]);
        }

        private boolean isLessonOnDay(int lesson, int day) {
            for (int k = 0; k < lessons.times[lesson]; k++) {
                if (isOnDay(itemOf(lesson, k), day)) {
                    return true;
                }
            }
            return false;
        }

        private int lowestRoom(int lesson, int from) {
            int bits = lessons.bitsAt(lesson, from);
            for (int room = 0; room < ROOMS; room++) {
                int user = FIRST_ROOM + room;
                if (kinds[room] == lessons.kind[lesson] && ((busy[user] | blocked[user]) & bits) == 0) {
                    return room;
                }
            }
            return NONE;
        }

        private int weekPenalty() {
            int sum = 0;
            for (int who = 0; who < TEACHERS; who++) {
                sum += teacherPart(busy[FIRST_TEACHER + who]);
            }
            for (int who = 0; who < CLASSES; who++) {
                sum += classPart(busy[who]);
            }
            return sum;
        }

        // An item has just one teacher, so the last periods of teachers count each item once.
        private int teacherPart(int taken) {
            return TEACHER_GAP * gapsIn(taken) + LAST_PERIOD * Integer.bitCount(taken & lastPeriods);
        }

        private int classPart(int taken) {
            return CLASS_GAP * gapsIn(taken);
        }

        /** Spreads the taken periods to both ends of all days at once: gaps are reached from both. */
        private int gapsIn(int taken) {
            int later = taken;
            int earlier = taken;
            for (int step = 1; step < perDay; step++) {
                later |= (later << 1) & ~firstPeriods;
                earlier |= (earlier >> 1) & ~lastPeriods;
            }
            return Integer.bitCount(later & earlier & ~taken);
        }

        /** A round of improving: whether an item went elsewhere. */
        private boolean betterAll() {
            boolean changed = false;
            for (int item = 0; item < ITEMS; item++) {
                if (isPlaced(item) && moveToBest(item)) {
                    changed = true;
                }
            }
            return changed;
        }

        private boolean moveToBest(int item) {
            int lesson = lessonOf(item);
            int oldSpot = spots[item];
            int oldPeriod = periodOfItem(item);
            takeOut(item);
            int best = oldPeriod;
            int least = partWith(lesson, oldPeriod);
            for (int from = 0; from < periods; from++) {
                if (brokenRule(item, from) == 0 && partWith(lesson, from) < least) {
                    best = from;
                    least = partWith(lesson, from);
                }
            }
            boolean moves = best != oldPeriod;
            putAt(item, moves ? best * ROOMS + lowestRoom(lesson, best) : oldSpot);
            return moves;
        }

        /**
         * The penalty of the lesson's own people with one more item of it at a period: for
         * all others the week is the same wherever the item goes.
         */
        private int partWith(int lesson, int from) {
            int bits = lessons.bitsAt(lesson, from);
            int second = lessons.second[lesson];
            return teacherPart(busy[FIRST_TEACHER + lessons.teacher[lesson]] | bits)
                    + classPart(busy[lessons.first[lesson]] | bits)
                    + (second == NONE ? 0 : classPart(busy[second] | bits));
        }

        private int letterAt(int user, int period) {
            for (int item = 0; item < ITEMS; item++) {
                if ((bitsOfItem(item) & (1 << period)) != 0 && isUsedBy(item, user)) {
                    return lessons.subject[lessonOf(item)];
                }
            }
            return POINT;
        }

        private boolean isUsedBy(int item, int user) {
            int lesson = lessonOf(item);
            return user == lessons.first[lesson]
                    || user == lessons.second[lesson]
                    || user == FIRST_TEACHER + lessons.teacher[lesson]
                    || user == FIRST_ROOM + roomOfItem(item);
        }

        /** The placed item of a teacher that begins at a period, or NONE. */
        private int itemBeginningAt(int teacher, int from) {
            for (int item = 0; item < ITEMS; item++) {
                if (lessons.teacher[lessonOf(item)] == teacher && periodOfItem(item) == from) {
                    return item;
                }
            }
            return NONE;
        }

        private int itemsOnDay(int teacher, int day) {
            int sum = 0;
            for (int item = 0; item < ITEMS; item++) {
                if (lessons.teacher[lessonOf(item)] == teacher && isOnDay(item, day)) {
                    sum++;
                }
            }
            return sum;
        }
    }

    /** The search of a fill: which items it places, and where each of them tries next. */
    private static final class Search {
        private final int[] queue = new int[ITEMS];
        private final int[] next = new int[ITEMS];
        private int queued;
        private int tried;

        private int run(Board board, int budget) {
            tried = 0;
            collect(board);
            aim(board, 0);
            int at = 0;
            for (int turn = 0; turn < MOST_TURNS; turn++) {
                if (at >= queued) {
                    return ALL_PLACED;
                }
                if (next[at] >= board.periods) {
                    at--;
                    if (at < 0) {
                        return IMPOSSIBLE;
                    }
                    board.takeOut(queue[at]);
                } else if (tried >= budget) {
                    break;
                } else if (tryNext(board, at)) {
                    at++;
                    aim(board, at);
                }
            }
            takeAllOut(board, at);
            return TOO_DEAR;
        }

        private void collect(Board board) {
            queued = 0;
            for (int lesson = 0; lesson < board.lessons.count; lesson++) {
                for (int k = 0; k < board.lessons.times[lesson]; k++) {
                    if (!board.isPlaced(itemOf(lesson, k))) {
                        queue[queued] = itemOf(lesson, k);
                        queued++;
                    }
                }
            }
        }

        /** Items of one lesson stand together in the queue: only the one just before matters. */
        private void aim(Board board, int at) {
            if (at >= queued) {
                return;
            }
            boolean follows = at > 0 && lessonOf(queue[at - 1]) == lessonOf(queue[at]);
            next[at] = follows ? board.periodOfItem(queue[at - 1]) + 1 : 0;
        }

        /** One try: whether it placed the item. */
        private boolean tryNext(Board board, int at) {
            int from = next[at];
            next[at]++;
            tried++;
            return board.putByRules(queue[at], from) == 0;
        }

        private void takeAllOut(Board board, int end) {
            for (int at = 0; at < end; at++) {
                board.takeOut(queue[at]);
            }
        }
    }

    /** The substitutes that the latest call of absent found. */
    private static final class Cover {
        private final int[] given = new int[MOST_PER_DAY];
        private int count;

        private void find(Board board, int teacher, int day) {
            count = 0;
            for (int column = 0; column < board.perDay; column++) {
                int from = day * board.perDay + column;
                int item = board.itemBeginningAt(teacher, from);
                if (item != NONE) {
                    given[count] = bestFor(board, teacher, board.bitsOfItem(item), day);
                    count++;
                }
            }
        }

        // Items of one teacher never share a period, so no earlier substitution can be in the way.
        private int bestFor(Board board, int teacher, int bits, int day) {
            int best = NONE;
            int fewest = 0;
            for (int who = 0; who < TEACHERS; who++) {
                int user = FIRST_TEACHER + who;
                if (who == teacher || ((board.busy[user] | board.blocked[user]) & bits) != 0) {
                    continue;
                }
                int load = board.itemsOnDay(who, day) + timesGiven(who);
                if (best == NONE || load < fewest) {
                    best = who;
                    fewest = load;
                }
            }
            return best;
        }

        private int timesGiven(int who) {
            int sum = 0;
            for (int i = 0; i < count; i++) {
                if (given[i] == who) {
                    sum++;
                }
            }
            return sum;
        }
    }

    /**
     * A ring of the rows of spots as they were before each change. One row more than is
     * kept, so that a draft of a call that changes nothing in the end costs no entry.
     */
    private static final class Journal {
        private static final int ROWS = MOST_ENTRIES + 1;

        private final int[] rows = new int[ROWS * ITEMS];
        private int oldest;
        private int count;

        private int startOf(int entry) {
            return (oldest + entry) % ROWS * ITEMS;
        }

        private void draw(int[] spots) {
            System.arraycopy(spots, 0, rows, startOf(count), ITEMS);
        }

        private void keep() {
            if (count < MOST_ENTRIES) {
                count++;
            } else {
                oldest = (oldest + 1) % ROWS;
            }
        }

        private void takeBack(int[] spots) {
            count--;
            System.arraycopy(rows, startOf(count), spots, 0, ITEMS);
        }
    }
}
