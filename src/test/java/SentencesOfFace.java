import java.io.IOException;
import java.nio.file.Files;
import java.nio.file.Path;
import java.util.ArrayList;
import java.util.List;

/** The rows of "The public face", and what the interface says ahead of the calls, beside the program's own text. */
final class SentencesOfFace {
    private static final String PROGRAM = "src/main/java/MuffledTolls.java";
    private static final String NAMES_INDEX = " throws IndexOutOfBoundsException";
    private static final String INDEX_AND_STATE = NAMES_INDEX + ", IllegalStateException";
    private static final String INDEX_AND_ARGUMENT = NAMES_INDEX + ", IllegalArgumentException";
    private static final String ALL_THREE = INDEX_AND_ARGUMENT + ", IllegalStateException";
    private static final String ARGUMENT = " throws IllegalArgumentException";

    /** What stands ahead of the calls, and the calls. */
    private static final String[][] GROUPS = {
        {"---- bells and leathers",
            "public int weigh(int bell, int weight)" + INDEX_AND_ARGUMENT,
            "public int fit(int bell, int side, int thick)" + ALL_THREE,
            "public int store(int leathers)" + ARGUMENT,
            "public int lasts(int bell, int side)" + NAMES_INDEX,
            "public int bell(int bell, int what)" + NAMES_INDEX},
        {"---- ringers",
            "public int ringer(int strength)" + ARGUMENT + ", IllegalStateException",
            "public int send(int bell, int ringer)" + INDEX_AND_STATE,
            "public int told(int ringer, int what)" + NAMES_INDEX},
        {"---- tolls",
            "public int toll(int bell, int kind, int age, int pace)" + ALL_THREE,
            "public int stop(int toll)" + INDEX_AND_STATE,
            "public int about(int toll, int what)" + NAMES_INDEX,
            "public int heard(int toll, int far)" + INDEX_AND_ARGUMENT,
            "public int count(int what)" + NAMES_INDEX},
        {"---- minutes and what would be",
            "public int pass(int minutes)" + ARGUMENT,
            "public int ends(int toll)" + NAMES_INDEX,
            "public int foresee(int minutes, int what)" + ARGUMENT + ", IndexOutOfBoundsException",
            "public int choose(int kind, int age, int pace)" + ARGUMENT,
            "public double mean()",
            "public long digest()"},
    };

    private SentencesOfFace() {
    }

    static void check() throws IOException {
        List<String> due = new ArrayList<>();
        classAndConstructor(due);
        for (String[] group : GROUPS) {
            ahead(group);
            for (String row : group) {
                due.add(row);
            }
        }
        Check.isOf("The public face");
        List<String> got = rowsOfTheProgram();
        for (int i = 0; i < Math.max(due.size(), got.size()); i++) {
            String dueRow = i < due.size() ? due.get(i) : "nothing more";
            String gotRow = i < got.size() ? got.get(i) : "nothing more";
            Check.isTrue("row " + i + " is \"" + gotRow + "\": that it is \"" + dueRow + "\"", gotRow.equals(dueRow));
        }
    }

    private static void classAndConstructor(List<String> due) {
        Doc.says("The public face", "public final class MuffledTolls {", "public MuffledTolls();", "}");
        due.add("public final class MuffledTolls");
        due.add("public MuffledTolls()");
    }

    private static void ahead(String[] group) {
        StringBuilder calls = new StringBuilder();
        for (int i = 1; i < group.length; i++) {
            Doc.says("The public face", group[i] + ";");
            String called = group[i].substring(0, group[i].indexOf('('));
            calls.append(i == 1 ? "`" : ", `").append(called.substring(called.lastIndexOf(' ') + 1)).append('`');
        }
        Doc.says("Terms", "Ahead of the calls " + calls + " the interface says: " + group[0] + ".");
    }

    /** In their order, what is public and the comments ahead of it. */
    private static List<String> rowsOfTheProgram() throws IOException {
        List<String> rows = new ArrayList<>();
        StringBuilder begun = new StringBuilder();
        for (String line : Files.readAllLines(Path.of(PROGRAM))) {
            String words = line.strip();
            if (words.startsWith("// ----")) {
                rows.add(words.substring(3));
            } else if (words.startsWith("public ") || begun.length() > 0) {
                begun.append(begun.length() > 0 ? " " : "").append(words);
                if (words.endsWith("{")) {
                    rows.add(begun.substring(0, begun.length() - 1).strip());
                    begun.setLength(0);
                }
            }
        }
        return rows;
    }
}
