/** Promises 1 to 6: a new object, weigh, fit, store, lasts, bell. */
public final class BellsTest {
    private static final int[] WRONG_BELLS = {-1, 4, 5, Integer.MIN_VALUE, Integer.MAX_VALUE};

    public static void main(String[] args) {
        newObject();
        objectsAreApart();
        weighAnswersTheWeightBefore();
        weighCountsFromTheNextStroke();
        weighRefuses();
        fitTakesFromTheStore();
        fitOfNoneTakesNothing();
        fitInPlaceIsNew();
        fitRefuses();
        storeHoldsNinetyNine();
        storeRefuses();
        lastsRoundsUp();
        lastsTellsTheTruth();
        lastsFollowsTheWeight();
        lastsRefuses();
        bellTellsAll();
        bellRefuses();
        Check.finish();
    }

    private static void newObject() {
        MuffledTolls x = new MuffledTolls();
        long[] counts = {0, 0, 0, 0, 0, 0, 0, 20, 0};
        for (int what = 0; what < 9; what++) {
            Check.same("new: count(" + what + ")", x.count(what), counts[what]);
        }
        for (int bell = 0; bell < 4; bell++) {
            long[] facts = {bell + 3, 0, 0, 0, -1, -1, 0, 0, 0};
            for (int what = 0; what < 9; what++) {
                Check.same("new: bell(" + bell + ", " + what + ")", x.bell(bell, what), facts[what]);
            }
            Check.same("new: lasts(" + bell + ", 0)", x.lasts(bell, 0), 0);
            Check.same("new: lasts(" + bell + ", 1)", x.lasts(bell, 1), 0);
        }
        Check.noIndex(x, "new: told(0, 0)", () -> x.told(0, 0));
        Check.noIndex(x, "new: about(0, 0)", () -> x.about(0, 0));
        Check.sameDouble("new: mean()", x.mean(), 0);
        Check.same("new: foresee(240, 5)", x.foresee(240, 5), 0);
        Check.same("new: choose(0, 0, 1)", x.choose(0, 0, 1), -1);
        Check.same("new: pass(240)", x.pass(240), 0);
        Check.same("new: the minute then", x.count(0), 240);
    }

    private static void objectsAreApart() {
        MuffledTolls x = new MuffledTolls();
        MuffledTolls y = new MuffledTolls();
        x.weigh(0, 9);
        x.ringer(9);
        x.toll(0, 0, 1, 1);
        x.fit(0, 0, 3);
        x.pass(7);
        Check.same("the other's weight", y.bell(0, 0), 3);
        Check.same("the other's ringers", y.count(1), 0);
        Check.same("the other's digest", y.digest(), new MuffledTolls().digest());
    }

    private static void weighAnswersTheWeightBefore() {
        MuffledTolls x = new MuffledTolls();
        for (int bell = 0; bell < 4; bell++) {
            Check.same("weigh(" + bell + ", 9)", x.weigh(bell, 9), bell + 3);
            Check.same("weigh(" + bell + ", 1)", x.weigh(bell, 1), 9);
            Check.same("weigh(" + bell + ", 1) again", x.weigh(bell, 1), 1);
            Check.same("its weight", x.bell(bell, 0), 1);
        }
    }

    private static void weighCountsFromTheNextStroke() {
        MuffledTolls x = new MuffledTolls();
        x.ringer(9);
        x.toll(0, 0, 3, 1);
        x.pass(5);
        // strokes in 0, 2, 4: three tellers with pauses of 1; the next one is the first for a year
        Check.same("tired by three strokes of 3", x.told(0, 1), 9);
        x.weigh(0, 7);
        x.pass(2);
        Check.same("tired by one of 7 more", x.told(0, 1), 16);
        Check.same("heard as far as 70", x.heard(0, 70), 1);
        Check.same("not farther", x.heard(0, 71), 0);
    }

    private static void weighRefuses() {
        MuffledTolls x = new MuffledTolls();
        for (int bell : WRONG_BELLS) {
            Check.noIndex(x, "weigh(" + bell + ", 5)", () -> x.weigh(bell, 5));
            Check.noIndex(x, "weigh(" + bell + ", 0)", () -> x.weigh(bell, 0));
        }
        for (int weight : new int[] {0, 10, -1, Integer.MIN_VALUE, Integer.MAX_VALUE}) {
            Check.noArgument(x, "weigh(2, " + weight + ")", () -> x.weigh(2, weight));
        }
    }

    private static void fitTakesFromTheStore() {
        MuffledTolls x = new MuffledTolls();
        Check.same("fit(1, 0, 4)", x.fit(1, 0, 4), 0);
        Check.same("fit(1, 1, 9)", x.fit(1, 1, 9), 0);
        Check.same("fit(1, 0, 1)", x.fit(1, 0, 1), 4);
        Check.same("the store: none comes back", x.count(7), 17);
        Check.same("leathers on bells", x.count(8), 2);
        Check.same("hand side", x.bell(1, 1), 1);
        Check.same("back side", x.bell(1, 2), 9);
        Check.same("another bell's hand side", x.bell(2, 1), 0);
    }

    private static void fitOfNoneTakesNothing() {
        MuffledTolls x = new MuffledTolls();
        Check.same("fit(3, 1, 0) without one", x.fit(3, 1, 0), 0);
        x.fit(3, 1, 5);
        Check.same("fit(3, 1, 0) with one", x.fit(3, 1, 0), 5);
        Check.same("none there", x.bell(3, 2), 0);
        Check.same("none lasts", x.lasts(3, 1), 0);
        Check.same("store", x.count(7), 19);
        Check.same("leathers on bells", x.count(8), 0);
    }

    private static void fitInPlaceIsNew() {
        MuffledTolls x = new MuffledTolls();
        x.ringer(9);
        x.toll(0, 2, 50, 1);
        x.fit(0, 0, 3);
        x.pass(1);
        Check.same("worn by 3: 27 left", x.lasts(0, 0), 9);
        x.fit(0, 0, 3);
        Check.same("a new one", x.lasts(0, 0), 10);
        x.pass(2);
        Check.same("worn again", x.lasts(0, 0), 9);
        x.fit(0, 0, 0);
        x.fit(0, 0, 3);
        Check.same("a new one behind none", x.lasts(0, 0), 10);
    }

    private static void fitRefuses() {
        MuffledTolls x = new MuffledTolls();
        for (int i = 0; i < 20; i++) {
            x.fit(0, 0, 2);
        }
        Check.same("the store is empty", x.count(7), 0);
        Check.noState(x, "fit(0, 0, 1) of an empty store", () -> x.fit(0, 0, 1));
        Check.noState(x, "fit(3, 1, 9) of an empty store", () -> x.fit(3, 1, 9));
        for (int thick : new int[] {-1, 10, Integer.MIN_VALUE, Integer.MAX_VALUE}) {
            Check.noArgument(x, "fit(0, 0, " + thick + ")", () -> x.fit(0, 0, thick));
            Check.noIndex(x, "fit(0, 2, " + thick + ")", () -> x.fit(0, 2, thick));
            Check.noIndex(x, "fit(4, 0, " + thick + ")", () -> x.fit(4, 0, thick));
        }
        for (int bell : WRONG_BELLS) {
            Check.noIndex(x, "fit(" + bell + ", 0, 1)", () -> x.fit(bell, 0, 1));
        }
        for (int side : new int[] {-1, 2, Integer.MIN_VALUE, Integer.MAX_VALUE}) {
            Check.noIndex(x, "fit(0, " + side + ", 1)", () -> x.fit(0, side, 1));
        }
        Check.same("fit of none needs no store", x.fit(0, 0, 0), 2);
        x.store(1);
        Check.same("fit of the last one", x.fit(0, 1, 1), 0);
        Check.noState(x, "fit behind the last one", () -> x.fit(0, 1, 1));
    }

    private static void storeHoldsNinetyNine() {
        MuffledTolls x = new MuffledTolls();
        Check.same("store(1)", x.store(1), 21);
        Check.same("store(50)", x.store(50), 71);
        Check.same("store(27)", x.store(27), 98);
        Check.same("store(1) to 99", x.store(1), 99);
        Check.same("store(1) at 99", x.store(1), 99);
        x.fit(0, 0, 1);
        Check.same("count(7)", x.count(7), 98);
        Check.same("store(50) over 99", x.store(50), 99);
        Check.same("count(7) at 99", x.count(7), 99);
    }

    private static void storeRefuses() {
        MuffledTolls x = new MuffledTolls();
        for (int leathers : new int[] {0, 51, -1, Integer.MIN_VALUE, Integer.MAX_VALUE}) {
            Check.noArgument(x, "store(" + leathers + ")", () -> x.store(leathers));
        }
    }

    private static void lastsRoundsUp() {
        MuffledTolls x = new MuffledTolls();
        for (int weight = 1; weight <= 9; weight++) {
            x.weigh(2, weight);
            x.store(9);
            for (int thick = 1; thick <= 9; thick++) {
                x.store(2);
                x.fit(2, 1, thick);
                int strokes = 0;
                for (int worn = 0; worn < 10 * thick; worn += weight) {
                    strokes++;
                }
                Check.same("lasts with " + weight + ", " + thick, x.lasts(2, 1), strokes);
            }
        }
        Check.same("the other side", x.lasts(2, 0), 0);
    }

    private static void lastsTellsTheTruth() {
        MuffledTolls x = new MuffledTolls();
        x.ringer(9);
        x.weigh(1, 4);
        x.fit(1, 1, 1);
        x.toll(1, 2, 20, 1);
        Check.same("at first", x.lasts(1, 1), 3);
        x.pass(1);
        Check.same("the hand side wears nothing", x.lasts(1, 1), 3);
        x.pass(1);
        Check.same("behind one on this side", x.lasts(1, 1), 2);
        x.pass(3);
        Check.same("behind two", x.lasts(1, 1), 1);
        Check.same("still there", x.bell(1, 2), 1);
        x.pass(2);
        Check.same("through", x.lasts(1, 1), 0);
        Check.same("none there", x.bell(1, 2), 0);
        Check.same("strokes so far", x.bell(1, 8), 6);
        Check.same("three of them loud", x.count(6), 3);
        Check.same("none on bells", x.count(8), 0);
        x.pass(3);
        Check.same("loud from then on", x.count(6), 5);
    }

    private static void lastsFollowsTheWeight() {
        MuffledTolls x = new MuffledTolls();
        x.ringer(9);
        x.weigh(0, 8);
        x.fit(0, 0, 1);
        x.toll(0, 0, 5, 1);
        x.pass(1);
        Check.same("worn by 8 of 10, with 8", x.lasts(0, 0), 1);
        x.weigh(0, 1);
        Check.same("with 1", x.lasts(0, 0), 2);
        x.weigh(0, 2);
        Check.same("with 2", x.lasts(0, 0), 1);
        x.pass(4);
        Check.same("10 of 10 is through", x.bell(0, 1), 0);
    }

    private static void lastsRefuses() {
        MuffledTolls x = new MuffledTolls();
        for (int bell : WRONG_BELLS) {
            Check.noIndex(x, "lasts(" + bell + ", 0)", () -> x.lasts(bell, 0));
        }
        for (int side : new int[] {-1, 2, Integer.MIN_VALUE, Integer.MAX_VALUE}) {
            Check.noIndex(x, "lasts(0, " + side + ")", () -> x.lasts(0, side));
        }
    }

    private static void bellTellsAll() {
        MuffledTolls x = new MuffledTolls();
        x.ringer(9);
        x.ringer(8);
        x.weigh(2, 6);
        x.fit(2, 0, 7);
        x.fit(2, 1, 5);
        x.toll(2, 0, 0, 3);
        x.toll(1, 0, 0, 1);
        x.toll(2, 1, 4, 2);
        x.send(2, 1);
        long[] before = {6, 7, 5, 0, 1, 0, 0, 2, 0};
        tells(x, "before", before);
        x.pass(1);
        long[] onStroke = {6, 7, 5, 1, 1, 0, 5, 2, 1};
        tells(x, "behind a stroke", onStroke);
        x.pass(5);
        long[] onPause = {6, 7, 5, 1, 1, 0, 0, 2, 1};
        tells(x, "behind the pause", onPause);
        x.pass(7);
        long[] onSecond = {6, 7, 5, 1, 1, 2, 0, 1, 3};
        tells(x, "behind the first toll", onSecond);
        x.pass(1);
        long[] onNext = {6, 7, 5, 0, 1, 2, 1, 1, 4};
        tells(x, "in the next toll", onNext);
        x.stop(2);
        long[] atEnd = {6, 7, 5, 0, -1, -1, 0, 0, 4};
        tells(x, "at the end", atEnd);
    }

    private static void tells(MuffledTolls x, String when, long[] due) {
        for (int what = 0; what < 9; what++) {
            Check.same(when + ": bell(2, " + what + ")", x.bell(2, what), due[what]);
        }
    }

    private static void bellRefuses() {
        MuffledTolls x = new MuffledTolls();
        for (int bell : WRONG_BELLS) {
            Check.noIndex(x, "bell(" + bell + ", 0)", () -> x.bell(bell, 0));
        }
        for (int what : new int[] {-1, 9, Integer.MIN_VALUE, Integer.MAX_VALUE}) {
            Check.noIndex(x, "bell(0, " + what + ")", () -> x.bell(0, what));
        }
    }
}
