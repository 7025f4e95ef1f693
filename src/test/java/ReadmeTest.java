import java.io.IOException;
import java.nio.file.Files;
import java.nio.file.Path;

/** The example of README.md answers what stands there. */
public final class ReadmeTest {
    private static String readme = "";

    public static void main(String[] args) throws IOException {
        readme = Files.readString(Path.of("README.md"));
        MuffledTolls tower = new MuffledTolls();
        says("tower.ringer(9);");
        for (int i = 0; i < 3; i++) {
            Check.same("tower.ringer(9)", tower.ringer(9), i);
        }
        says("tower.fit(0, 1, 3);");
        tower.fit(0, 1, 3);
        answers("int toll = tower.toll(0, 2, 64, 1);", tower.toll(0, 2, 64, 1));
        answers("tower.ends(toll);", tower.ends(0));
        answers("tower.pass(60);", tower.pass(60));
        answers("tower.heard(toll, 20);", tower.heard(0, 20));
        answers("tower.about(toll, 4);", tower.about(0, 4));
        namesEachCall();
        Check.finish();
    }

    private static void says(String code) {
        Check.isTrue("that README.md says: " + code, readme.contains(code));
    }

    /** The row's comment begins with the answer. */
    private static void answers(String code, int answer) {
        says(code);
        for (String line : readme.split("\n")) {
            int comment = line.indexOf("// ");
            if (line.startsWith(code) && comment >= 0) {
                String told = line.substring(comment + 3).replaceFirst("[^0-9].*", "");
                Check.isTrue(code + " answered " + answer + ": that README.md says so", told.equals("" + answer));
                return;
            }
        }
        Check.isTrue("that README.md tells the answer of " + code, false);
    }

    private static void namesEachCall() {
        String[] calls = {"weigh(bell, weight)", "fit(bell, side, thick)", "store(leathers)", "lasts(bell, side)",
            "bell(bell, what)", "ringer(strength)", "send(bell, ringer)", "told(ringer, what)",
            "toll(bell, kind, age, pace)", "stop(toll)", "about(toll, what)", "heard(toll, far)", "count(what)",
            "pass(minutes)", "ends(toll)", "foresee(minutes, what)", "choose(kind, age, pace)", "mean()", "digest()"};
        for (String call : calls) {
            says("| `" + call + "` |");
        }
    }
}
