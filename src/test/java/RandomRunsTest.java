import java.util.ArrayList;
import java.util.Arrays;
import java.util.List;
import java.util.Random;
import java.util.function.IntSupplier;

/** Long runs of calls, drawn from fixed seeds, on a TimetableDesk and on a NaiveDesk. */
public final class RandomRunsTest {
    private static final int RUNS = 600;
    private static final int MOST_CALLS = 512;
    private static final int MOST_CALLS_OF_A_STEP = 38;

    private final Random random;
    private final int days;
    private final int perDay;
    private final int people;
    private final int roomKinds;
    private final int undoing;
    private final int blocking;
    private final TimetableDesk desk;
    private final NaiveDesk naive;
    private final List<Integer> times = new ArrayList<>();
    private final StringBuilder story = new StringBuilder();
    private int calls = 0;

    private RandomRunsTest(int seed) {
        random = new Random(seed);
        int askedDays = random.nextInt(7);
        int askedPerDay = random.nextInt(8);
        days = askedDays < 1 || askedDays > 5 ? 5 : askedDays;
        perDay = askedPerDay < 1 || askedPerDay > 6 ? 6 : askedPerDay;
        people = 2 + random.nextInt(7);
        roomKinds = 1 + random.nextInt(3);
        undoing = random.nextInt(10);
        blocking = random.nextInt(3);
        desk = new TimetableDesk(askedDays, askedPerDay);
        naive = new NaiveDesk(askedDays, askedPerDay);
        story.append("seed ").append(seed).append(", week ").append(askedDays).append(", ").append(askedPerDay);
    }

    public static void main(String[] args) {
        for (int seed = 1; seed <= RUNS; seed++) {
            new RandomRunsTest(seed).run();
        }
        Check.end();
    }

    /** Stops where answers differ, as the rest would only follow from that. */
    private void run() {
        boolean agree = true;
        for (int i = 0; i < 2 + people && agree; i++) {
            agree = lesson();
        }
        while (agree && calls + MOST_CALLS_OF_A_STEP <= MOST_CALLS) {
            agree = step();
        }
    }

    private boolean step() {
        if (random.nextInt(100) < undoing) {
            return same("undo()", desk::undo, naive::undo);
        }
        int kind = random.nextInt(100);
        if (kind < 3) {
            return lesson();
        }
        if (kind < 6) {
            return room();
        }
        if (kind < 18) {
            return block();
        }
        if (kind < 75) {
            return item(kind);
        }
        if (kind < 79) {
            int budget = random.nextInt(8) == 0 ? 20000 : random.nextInt(400);
            return same("fill(" + budget + ")", () -> desk.fill(budget), () -> naive.fill(budget))
                    && same("tries()", desk::tries, naive::tries);
        }
        if (kind < 81) {
            int rounds = random.nextInt(12);
            return same("improve(" + rounds + ")", () -> desk.improve(rounds), () -> naive.improve(rounds));
        }
        if (kind < 86) {
            return absent();
        }
        return kind < 98 ? same("penalty()", desk::penalty, naive::penalty) : page();
    }

    private boolean lesson() {
        int[] a = {
            below(people), random.nextInt(3) > 0 ? -1 : below(people), below(people), below(roomKinds),
            10 * (1 + below(2)) + 1 + below(Math.min(4, days)), 33 + below(94)};
        return same("lesson" + Arrays.toString(a),
                () -> desk.lesson(a[0], a[1], a[2], a[3], a[4], a[5]),
                () -> {
                    int number = naive.lesson(a[0], a[1], a[2], a[3], a[4], a[5]);
                    times.add(a[4] % 10);
                    return number;
                });
    }

    private boolean room() {
        int room = below(6);
        int kind = below(roomKinds);
        return same("room(" + room + ", " + kind + ")",
                () -> nothing(() -> desk.room(room, kind)), () -> nothing(() -> naive.room(room, kind)));
    }

    private boolean block() {
        int what = below(3);
        int who = below(what == 2 ? 6 : people);
        int period = below(days * perDay);
        boolean on = random.nextInt(3) < blocking;
        return same("block(" + what + ", " + who + ", " + period + ", " + on + ")",
                () -> nothing(() -> desk.block(what, who, period, on)),
                () -> nothing(() -> naive.block(what, who, period, on)));
    }

    private boolean item(int kind) {
        int lesson = below(Math.max(1, times.size()));
        int k = below(lesson >= 0 && lesson < times.size() ? times.get(lesson) : 1);
        int period = below(days * perDay);
        String of = "(" + lesson + ", " + k + ")";
        if (kind < 55) {
            return same("place" + of + " at " + period,
                    () -> desk.place(lesson, k, period), () -> naive.place(lesson, k, period));
        }
        if (kind < 63) {
            return same("drop" + of, () -> desk.drop(lesson, k), () -> naive.drop(lesson, k));
        }
        return same("period" + of, () -> desk.period(lesson, k), () -> naive.period(lesson, k))
                && same("roomOf" + of, () -> desk.roomOf(lesson, k), () -> naive.roomOf(lesson, k));
    }

    private boolean absent() {
        int teacher = below(people);
        int day = below(days);
        boolean all = same("absent(" + teacher + ", " + day + ")",
                () -> desk.absent(teacher, day), () -> naive.absent(teacher, day));
        for (int i = -1; i < 7 && all; i++) {
            int at = i;
            all = same("substitute(" + at + ")", () -> desk.substitute(at), () -> naive.substitute(at));
        }
        return all;
    }

    private boolean page() {
        int what = below(3);
        int who = below(what == 2 ? 6 : people);
        boolean all = true;
        for (int i = -1; i <= days * (perDay + 1) && all; i++) {
            int at = i;
            all = same("page(" + what + ", " + who + ", " + at + ")",
                    () -> desk.page(what, who, at), () -> naive.page(what, who, at));
        }
        return all;
    }

    /** 0 .. bound - 1, and now and then one beyond either end. */
    private int below(int bound) {
        int chance = random.nextInt(80);
        return chance == 0 ? -1 : chance == 1 ? bound : random.nextInt(bound);
    }

    private static int nothing(Runnable call) {
        call.run();
        return 0;
    }

    private boolean same(String call, IntSupplier asked, IntSupplier model) {
        calls++;
        String want = Check.outcome(model);
        String got = Check.outcome(asked);
        story.append("\n  ").append(call).append(" -> ").append(got);
        boolean agree = want.equals(got);
        Check.due(agree ? call : story + "\n " + call, want, got);
        return agree;
    }
}
