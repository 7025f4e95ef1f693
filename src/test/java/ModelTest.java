import java.util.Random;

/** Long runs of calls, always the same ones, with each answer beside that of PlainTower. */
public final class ModelTest {
    private static final int RUNS = 400;
    /** With the checksums in between an object has at most 512 calls. */
    private static final int CALLS = 448;

    private final MuffledTolls x = new MuffledTolls();
    private final PlainTower y = new PlainTower();
    private final Random random;
    private final int run;
    private final boolean wide;

    private ModelTest(int run) {
        this.run = run;
        random = new Random(run);
        wide = run % 4 == 0;
    }

    public static void main(String[] args) {
        for (int run = 0; run < RUNS; run++) {
            new ModelTest(run).go();
        }
        Check.finish();
    }

    private void go() {
        for (int call = 0; call < CALLS; call++) {
            oneCall(call);
            if (call % 8 == 0 && x.digest() != y.digest()) {
                Check.tellWrong("run " + run + ", call " + call + ": digest() is not the same");
                return;
            }
        }
    }

    /** Mostly a good number, at times one beside it or far away. */
    private int number(int least, int most) {
        int dice = random.nextInt(60);
        if (dice == 0) {
            return least - 1;
        }
        if (dice == 1) {
            return most + 1;
        }
        if (dice == 2) {
            return random.nextInt();
        }
        if (dice < 8) {
            return dice % 2 == 0 ? least : most;
        }
        return least + random.nextInt(Math.max(1, most - least + 1));
    }

    private void oneCall(int call) {
        int a = number(0, 3);
        int toll = number(0, y.count(3) - 1);
        int ringer = number(0, y.count(1) - 1);
        switch (random.nextInt(call < 30 ? 8 : 24)) {
            case 0 -> two("weigh", a, number(1, 9), x::weigh, y::weigh);
            case 1 -> fit(a, number(0, 1), number(0, 9));
            case 2, 3 -> one("ringer", number(1, 9), x::ringer, y::ringer);
            case 4 -> two("send", a, ringer, x::send, y::send);
            case 5, 6 -> toll(a, number(0, 2), wide ? number(0, 120) : number(0, 12), number(1, 5));
            case 7 -> one("pass", wide ? number(1, 240) : number(1, 12), x::pass, y::pass);
            case 8 -> one("store", number(1, 50), x::store, y::store);
            case 9 -> two("lasts", a, number(0, 1), x::lasts, y::lasts);
            case 10 -> two("bell", a, number(0, 8), x::bell, y::bell);
            case 11 -> two("told", ringer, number(0, 4), x::told, y::told);
            case 12 -> maybeStop(toll);
            case 13 -> two("about", toll, number(0, 8), x::about, y::about);
            case 14 -> two("heard", toll, number(0, 90), x::heard, y::heard);
            case 15 -> one("count", number(0, 8), x::count, y::count);
            case 16 -> one("ends", toll, x::ends, y::ends);
            case 17 -> two("foresee", number(1, 240), number(0, 8), x::foresee, y::foresee);
            case 18 -> choose(number(0, 2), number(0, 120), number(1, 5));
            case 19 -> Check.sameDouble("run " + run + ": mean()", x.mean(), y.mean());
            default -> one("pass", number(1, 9), x::pass, y::pass);
        }
    }

    private void maybeStop(int toll) {
        if (random.nextInt(3) == 0) {
            one("stop", toll, x::stop, y::stop);
        }
    }

    private interface One {
        int of(int a);
    }

    private interface Two {
        int of(int a, int b);
    }

    private void one(String name, int a, One got, One due) {
        compare(name + "(" + a + ")", () -> got.of(a), () -> due.of(a));
    }

    private void two(String name, int a, int b, Two got, Two due) {
        compare(name + "(" + a + ", " + b + ")", () -> got.of(a, b), () -> due.of(a, b));
    }

    private void fit(int a, int b, int c) {
        compare("fit(" + a + ", " + b + ", " + c + ")", () -> x.fit(a, b, c), () -> y.fit(a, b, c));
    }

    private void choose(int a, int b, int c) {
        compare("choose(" + a + ", " + b + ", " + c + ")", () -> x.choose(a, b, c), () -> y.choose(a, b, c));
    }

    private void toll(int a, int b, int c, int d) {
        compare("toll(" + a + ", " + b + ", " + c + ", " + d + ")", () -> x.toll(a, b, c, d), () -> y.toll(a, b, c, d));
    }

    private void compare(String what, Check.Call got, Check.Call due) {
        String dueText = Check.outcome(due);
        String gotText = Check.outcome(got);
        if (!gotText.equals(dueText)) {
            Check.tellWrong("run " + run + ": " + what + " gave " + gotText + ", due is " + dueText);
        }
    }
}
