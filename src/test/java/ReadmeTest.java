import java.io.IOException;
import java.lang.reflect.Method;
import java.lang.reflect.Modifier;
import java.nio.file.Files;
import java.nio.file.Path;
import java.util.ArrayList;
import java.util.HashMap;
import java.util.List;
import java.util.Map;
import java.util.regex.Matcher;
import java.util.regex.Pattern;

/** README.md's example answers what its comments tell, and README.md leaves no call out. */
public final class ReadmeTest {
    private static final Path README = Path.of("README.md");
    private static final Path THIS_FILE = Path.of("src/test/java/ReadmeTest.java");
    private static final Pattern ANSWER = Pattern.compile("int (\\w+) = .*// ('(.)'|-?\\d+):.*");
    private static final Pattern CALL = Pattern.compile("`(\\w+)\\([^`]*\\)`");

    public static void main(String[] args) throws IOException {
        List<String> shown = linesBetween(README, "```java", "```");
        Check.due("the lines of README.md's example",
                String.join("\n", shown), String.join("\n", linesBetween(THIS_FILE, "// README begins", "// README ends")));
        Check.due("the answers that README.md tells", toldAnswers(shown), answers());
        Check.due("each public method has its row in README.md", List.of(), methodsWithoutRow());
        Check.end();
    }

    /** The lines between the first two of these, without what stands before and behind them. */
    private static List<String> linesBetween(Path file, String begin, String end) throws IOException {
        List<String> found = new ArrayList<>();
        boolean inside = false;
        for (String line : Files.readAllLines(file)) {
            String bare = line.strip();
            if (inside && bare.equals(end)) {
                return found;
            }
            if (inside) {
                found.add(bare);
            }
            inside |= bare.equals(begin);
        }
        return List.of(file + " has no lines between " + begin + " and " + end);
    }

    private static Map<String, Integer> toldAnswers(List<String> lines) {
        Map<String, Integer> told = new HashMap<>();
        for (String line : lines) {
            Matcher matcher = ANSWER.matcher(line);
            if (matcher.matches()) {
                String letter = matcher.group(3);
                told.put(matcher.group(1), letter == null ? Integer.parseInt(matcher.group(2)) : letter.charAt(0));
            }
        }
        return told;
    }

    private static Map<String, Integer> answers() {
        // README begins
        TimetableDesk desk = new TimetableDesk(2, 4);
        desk.room(1, 1);                                  // room 1 gets kind 1, the others have kind 0
        int maths = desk.lesson(0, -1, 0, 0, 12, 'M');    // class 0, teacher 0, kind 0: 1 period, 2 times
        int sports = desk.lesson(0, 1, 1, 1, 21, 'S');    // classes 0 and 1, teacher 1, kind 1: 2 periods, once
        desk.block(1, 0, 0, true);                        // teacher 0 can't be there in period 0
        int broken = desk.place(maths, 0, 0);             // 2: that rule is broken, nothing changed
        int placed = desk.place(maths, 0, 3);             // 0: no rule is broken, it is placed
        int before = desk.penalty();                      // 3: an item has the last period of a day
        int filled = desk.fill(20000);                    // 1: all items are placed
        int tries = desk.tries();                         // 6: five periods for maths, one for sports
        int after = desk.improve(10);                     // 0: maths went from period 3 to period 2
        int when = desk.period(sports, 0);                // 0: and period 1, as it has two
        int where = desk.roomOf(sports, 0);               // 1: the lowest free room of kind 1
        int items = desk.absent(0, 0);                    // 1: teacher 0 has one item on day 0
        int who = desk.substitute(0);                     // 2: the first of those with no item that day
        int letter = desk.page(0, 0, 2);                  // 'M': class 0's page begins SSM.
        int left = desk.undo();                           // 2: improve is taken back; place and fill are left
        int from = desk.drop(maths, 0);                   // 3: where it was before improve, and is no more
        // README ends
        Map<String, Integer> answers = new HashMap<>();
        answers.put("broken", broken);
        answers.put("placed", placed);
        answers.put("before", before);
        answers.put("filled", filled);
        answers.put("tries", tries);
        answers.put("after", after);
        answers.put("when", when);
        answers.put("where", where);
        answers.put("items", items);
        answers.put("who", who);
        answers.put("letter", letter);
        answers.put("left", left);
        answers.put("from", from);
        return answers;
    }

    private static List<String> methodsWithoutRow() throws IOException {
        List<String> missing = new ArrayList<>();
        for (Method method : TimetableDesk.class.getDeclaredMethods()) {
            if (Modifier.isPublic(method.getModifiers())) {
                missing.add(method.getName());
            }
        }
        for (String line : Files.readAllLines(README)) {
            Matcher matcher = CALL.matcher(line.startsWith("|") ? line.split("\\|")[1] : "");
            while (matcher.find()) {
                missing.remove(matcher.group(1));
            }
        }
        return missing;
    }
}
