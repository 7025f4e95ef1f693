import java.util.function.Supplier;

/**
 * Two towers that were made alike: what must change nothing is called on one of them alone, and then
 * both go on alike; so a change that no answer shows at once is found too.
 */
final class Alike {
    interface Asked {
        long answer(MuffledTolls x);
    }

    private Alike() {
    }

    static void noIndex(String what, Asked call) {
        refused(what, IndexOutOfBoundsException.class, call);
    }

    static void noArgument(String what, Asked call) {
        refused(what, IllegalArgumentException.class, call);
    }

    /** Refused with this exception by a new tower, by a busy one and by a full one. */
    private static void refused(String what, Class<?> due, Asked call) {
        refusedBy(MuffledTolls::new, what + " of a new tower", due, call);
        refusedBy(Towers::busy, what + " of a busy tower", due, call);
        refusedBy(Towers::full, what + " of a full tower", due, call);
    }

    static void refusedBy(Supplier<MuffledTolls> made, String what, Class<?> due, Asked call) {
        String got = behind(made, what, call);
        Check.isTrue(what + " gave " + got + ": that it is " + due.getName(), got.equals(due.getName()));
    }

    static void noIndexBy(Supplier<MuffledTolls> made, String what, Asked call) {
        refusedBy(made, what, IndexOutOfBoundsException.class, call);
    }

    static void noArgumentBy(Supplier<MuffledTolls> made, String what, Asked call) {
        refusedBy(made, what, IllegalArgumentException.class, call);
    }

    static void noStateBy(Supplier<MuffledTolls> made, String what, Asked call) {
        refusedBy(made, what, IllegalStateException.class, call);
    }

    /** An answer, not an exception, and nothing is changed by it. */
    static void onlyAnswers(Supplier<MuffledTolls> made, String what, Asked call) {
        String got = behind(made, what, call);
        Check.isTrue(what + " gave " + got + ": that it answers", !got.contains("Exception"));
    }

    private static String behind(Supplier<MuffledTolls> made, String what, Asked call) {
        MuffledTolls x = made.get();
        MuffledTolls y = made.get();
        String got = Check.outcome(() -> call.answer(x));
        same(what + ", at once", x, y);
        aheadAlike(what, x, y);
        wornAlike(what, x, y);
        for (int i = 0; i < 12; i++) {
            Check.same(what + ", then pass(7)", x.pass(7), y.pass(7));
            same(what + ", then pass(7)", x, y);
        }
        goOn(what, x, y);
        return got;
    }

    private static void same(String when, MuffledTolls x, MuffledTolls y) {
        Check.same("digest() behind " + when, x.digest(), y.digest());
        Check.sameDouble("mean() behind " + when, x.mean(), y.mean());
    }

    private static void aheadAlike(String what, MuffledTolls x, MuffledTolls y) {
        for (int seen : new int[] {2, 4, 5, 6, 8}) {
            alike("foresee(5, " + seen + ") behind " + what, x, y, z -> z.foresee(5, seen));
        }
        alike("ends(0) behind " + what, x, y, z -> z.ends(0));
        alike("choose(0, 3, 2) behind " + what, x, y, z -> z.choose(0, 3, 2));
    }

    /** With the weight 1 lasts() tells exactly how much a leather is worn. */
    private static void wornAlike(String what, MuffledTolls x, MuffledTolls y) {
        for (int bell = 0; bell < 4; bell++) {
            int weight = x.weigh(bell, 1);
            Check.same("weigh() behind " + what, y.weigh(bell, 1), weight);
            Check.same("the hand side's wear behind " + what, x.lasts(bell, 0), y.lasts(bell, 0));
            Check.same("the back side's wear behind " + what, x.lasts(bell, 1), y.lasts(bell, 1));
            x.weigh(bell, weight);
            y.weigh(bell, weight);
        }
    }

    private static void goOn(String what, MuffledTolls x, MuffledTolls y) {
        alike("ringer(9) behind " + what, x, y, z -> z.ringer(9));
        alike("toll(1, 2, 9, 2) behind " + what, x, y, z -> z.toll(1, 2, 9, 2));
        alike("store(3) behind " + what, x, y, z -> z.store(3));
        alike("choose(1, 30, 3) behind " + what, x, y, z -> z.choose(1, 30, 3));
        alike("foresee(240, 5) behind " + what, x, y, z -> z.foresee(240, 5));
        alike("pass(240) behind " + what, x, y, z -> z.pass(240));
        same(what + ", then pass(240)", x, y);
    }

    private static void alike(String what, MuffledTolls x, MuffledTolls y, Asked call) {
        String due = Check.outcome(() -> call.answer(y));
        String got = Check.outcome(() -> call.answer(x));
        Check.isTrue(what + " gave " + got + ": that it is " + due, got.equals(due));
    }
}
