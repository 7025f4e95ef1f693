/** Promises 15 to 19: pass, ends, foresee, choose, mean; digest is in SentencesOfMinutes. */
public final class MinutesTest {

    public static void main(String[] args) {
        passAnswersStrokes();
        passInPartsIsTheSame();
        passRefuses();
        endsTellsTheTruth();
        endsKnowsItsLimit();
        endsRefuses();
        foreseeTellsTheTruth();
        foreseeGoesOnFromWhatIs();
        foreseeRefuses();
        chooseTakesTheSoonest();
        chooseTakesTheSmallestOfSeveral();
        chooseMindsOneMinute();
        chooseMindsTheQueues();
        chooseKnowsItsLimit();
        chooseInAFullTower();
        chooseRefuses();
        looksChangeNothing();
        meanIsOfAll();
        Check.finish();
    }

    private static void passAnswersStrokes() {
        MuffledTolls x = new MuffledTolls();
        x.ringer(9);
        x.ringer(9);
        x.toll(0, 0, 2, 1);
        x.toll(3, 0, 2, 2);
        Check.same("strokes in one minute", x.pass(1), 2);
        // bell 0 in 2, 4, 6, 7; bell 3 in 4, 8, 12, 14
        Check.same("strokes in four minutes", x.pass(4), 3);
        Check.same("the minute", x.count(0), 5);
        Check.same("strokes in 240 minutes", x.pass(240), 5);
        Check.same("strokes in all", x.count(5), 10);
        Check.same("the minute then", x.count(0), 245);
        Check.same("none any more", x.pass(1), 0);
    }

    private static void passInPartsIsTheSame() {
        MuffledTolls x = Towers.busy();
        MuffledTolls y = Towers.busy();
        int strokes = x.pass(120);
        int sum = 0;
        for (int i = 0; i < 120; i++) {
            sum += y.pass(1);
        }
        Check.same("strokes", sum, strokes);
        Check.same("digest", y.digest(), x.digest());
    }

    private static void passRefuses() {
        MuffledTolls x = Towers.busy();
        for (int minutes : new int[] {0, 241, -1, Integer.MIN_VALUE, Integer.MAX_VALUE}) {
            Check.noArgument(x, "pass(" + minutes + ")", () -> x.pass(minutes));
        }
    }

    private static void endsTellsTheTruth() {
        MuffledTolls x = new MuffledTolls();
        x.ringer(9);
        x.toll(0, 0, 0, 1);
        Check.same("at first", x.ends(0), 5);
        x.pass(4);
        Check.same("before the last stroke", x.ends(0), 1);
        x.pass(1);
        Check.same("behind it", x.ends(0), 0);
        Check.same("done in", x.about(0, 8), 4);
    }

    private static void endsKnowsItsLimit() {
        MuffledTolls x = new MuffledTolls();
        for (int i = 0; i < 12; i++) {
            x.ringer(9);
        }
        x.weigh(0, 1);
        x.toll(0, 0, 120, 5);
        // tellers in 0, 10, 20, years in 30, 35, ... 30 + 5 * 119 = 625
        Check.same("one that takes too long", x.ends(0), -1);
        x.pass(1);
        MuffledTolls y = new MuffledTolls();
        for (int i = 0; i < 12; i++) {
            y.ringer(9);
        }
        y.weigh(0, 1);
        y.toll(0, 0, 115, 5);
        // the last stroke in 30 + 5 * 114 = 600, behind 601 minutes
        Check.same("601 minutes are too many", y.ends(0), -1);
        y.pass(1);
        Check.same("600 are not", y.ends(0), 600);
        y.pass(1);
        Check.same("599 are not", y.ends(0), 599);
        MuffledTolls z = new MuffledTolls();
        z.toll(0, 0, 0, 1);
        Check.same("never, without ringers", z.ends(0), -1);
    }

    private static void endsRefuses() {
        MuffledTolls x = Towers.busy();
        int tolls = x.count(3);
        for (int toll : new int[] {-1, tolls, 20, Integer.MIN_VALUE, Integer.MAX_VALUE}) {
            Check.noIndex(x, "ends(" + toll + ")", () -> x.ends(toll));
        }
    }

    private static void foreseeTellsTheTruth() {
        int[] whats = {2, 4, 5, 6, 8};
        for (int minutes : new int[] {1, 2, 17, 60, 239, 240}) {
            MuffledTolls x = Towers.busy();
            MuffledTolls y = Towers.busy();
            y.pass(minutes);
            for (int what : whats) {
                Check.same("foresee(" + minutes + ", " + what + ")", x.foresee(minutes, what), y.count(what));
            }
        }
    }

    private static void foreseeGoesOnFromWhatIs() {
        MuffledTolls x = new MuffledTolls();
        x.ringer(9);
        x.weigh(0, 4);
        x.toll(0, 2, 0, 1);
        x.fit(0, 0, 1);
        x.pass(1);
        // the leather is worn by 4 of 10, so strokes 3 and 5 wear it through; 5 is in the minute 5
        Check.same("behind that stroke", x.foresee(5, 8), 0);
        Check.same("before it", x.foresee(4, 8), 1);
        Check.same("the back side is next, and loud", x.foresee(1, 6), 1);
        Check.same("and then the hand side is not", x.foresee(2, 6), 1);
        x.pass(5);
        Check.same("as it is then", x.count(8), 0);
    }

    private static void foreseeRefuses() {
        MuffledTolls x = Towers.busy();
        for (int minutes : new int[] {0, 241, -1, Integer.MIN_VALUE, Integer.MAX_VALUE}) {
            Check.noArgument(x, "foresee(" + minutes + ", 5)", () -> x.foresee(minutes, 5));
            Check.noArgument(x, "foresee(" + minutes + ", 0)", () -> x.foresee(minutes, 0));
        }
        for (int what : new int[] {-1, 0, 1, 3, 7, 9, Integer.MIN_VALUE, Integer.MAX_VALUE}) {
            Check.noIndex(x, "foresee(240, " + what + ")", () -> x.foresee(240, what));
        }
    }

    private static void chooseTakesTheSoonest() {
        MuffledTolls x = new MuffledTolls();
        x.ringer(1);
        // weights 3, 4, 5, 6: three strokes of 3 are 9, of 4 would be 12, over 10
        Check.same("one that a weak ringer can end", x.choose(0, 0, 1), 0);
        x.weigh(0, 9);
        Check.same("none can", x.choose(0, 0, 1), -1);
        x.weigh(2, 2);
        Check.same("a lighter one", x.choose(0, 0, 1), 2);
        x.ringer(9);
        Check.same("with a strong one all can", x.choose(0, 0, 1), 0);
    }

    private static void chooseTakesTheSmallestOfSeveral() {
        MuffledTolls x = new MuffledTolls();
        x.ringer(9);
        Check.same("all alike", x.choose(1, 3, 2), 0);
        x.toll(0, 0, 0, 1);
        x.ringer(9);
        Check.same("0 is taken, 1 to 3 are alike", x.choose(1, 3, 2), 1);
        x.toll(1, 0, 0, 1);
        x.toll(2, 0, 0, 1);
        x.ringer(9);
        x.ringer(9);
        Check.same("only 3 is free", x.choose(1, 3, 2), 3);
    }

    private static void chooseMindsOneMinute() {
        MuffledTolls x = new MuffledTolls();
        for (int i = 0; i < 4; i++) {
            x.ringer(9);
        }
        x.toll(0, 0, 7, 1);
        x.toll(1, 0, 6, 1);
        x.toll(2, 0, 5, 1);
        x.toll(3, 0, 5, 1);
        Check.same("sooner by a minute each", x.choose(0, 0, 1), 2);
        x.toll(2, 0, 9, 1);
        x.toll(3, 0, 9, 1);
        Check.same("sooner by a minute than 0", x.choose(0, 0, 1), 1);
    }

    private static void chooseMindsTheQueues() {
        MuffledTolls x = new MuffledTolls();
        for (int i = 0; i < 4; i++) {
            x.ringer(9);
        }
        x.toll(0, 0, 10, 1);
        x.toll(1, 0, 8, 1);
        x.toll(2, 0, 1, 1);
        x.toll(2, 0, 1, 1);
        x.toll(3, 0, 12, 1);
        // they are free behind 16, 14, 2 * 7 and 18 minutes
        Check.same("1 as soon as 2", x.choose(0, 0, 1), 1);
        x.stop(3);
        Check.same("2 is sooner then", x.choose(0, 0, 1), 2);
        x.stop(4);
        Check.same("3 is the soonest", x.choose(0, 0, 1), 3);
    }

    private static void chooseKnowsItsLimit() {
        MuffledTolls x = new MuffledTolls();
        for (int i = 0; i < 12; i++) {
            x.ringer(9);
        }
        for (int bell = 0; bell < 4; bell++) {
            x.weigh(bell, 1);
        }
        // the last stroke in 30 + 5 * 114 = 600, behind 601 minutes
        Check.same("601 minutes are too many", x.choose(0, 115, 5), -1);
        Check.same("596 are not", x.choose(0, 114, 5), 0);
        // tellers in 0, 8, 16, the last year in 24 + 4 * 119 = 500
        Check.same("501 are not", x.choose(0, 120, 4), 0);
        x.toll(0, 0, 0, 1);
        x.toll(1, 0, 0, 1);
        x.toll(2, 0, 0, 1);
        // bell 3 alone has none before it: 5 minutes more would be 601 on the others
        Check.same("the only one in time", x.choose(0, 114, 5), 3);
        x.toll(3, 0, 0, 1);
        Check.same("601 on all", x.choose(0, 114, 5), -1);
        x.pass(1);
        Check.same("600 on all", x.choose(0, 114, 5), 0);
    }

    private static void chooseInAFullTower() {
        MuffledTolls x = new MuffledTolls();
        x.ringer(9);
        for (int i = 0; i < 20; i++) {
            x.toll(2, 0, 0, 1);
        }
        Check.same("in a full tower", x.choose(0, 0, 1), 0);
        Check.same("still 20", x.count(3), 20);
        for (int i = 0; i < 20; i++) {
            x.stop(i);
        }
        x.weigh(0, 9);
        x.weigh(1, 9);
        x.weigh(3, 9);
        x.weigh(2, 1);
        Check.same("all alike with one toll", x.choose(2, 0, 5), 0);
        Check.same("asked twice", x.choose(2, 0, 5), 0);
        Check.same("not longer with one toll", x.choose(2, 9, 5), 2);
    }

    private static void chooseRefuses() {
        MuffledTolls x = Towers.busy();
        for (int kind : new int[] {-1, 3, Integer.MIN_VALUE, Integer.MAX_VALUE}) {
            Check.noArgument(x, "choose(" + kind + ", 0, 1)", () -> x.choose(kind, 0, 1));
        }
        for (int age : new int[] {-1, 121, Integer.MIN_VALUE, Integer.MAX_VALUE}) {
            Check.noArgument(x, "choose(0, " + age + ", 1)", () -> x.choose(0, age, 1));
        }
        for (int pace : new int[] {0, 6, -1, Integer.MIN_VALUE, Integer.MAX_VALUE}) {
            Check.noArgument(x, "choose(0, 0, " + pace + ")", () -> x.choose(0, 0, pace));
        }
    }

    private static void looksChangeNothing() {
        MuffledTolls x = Towers.busy();
        MuffledTolls y = Towers.busy();
        for (int i = 0; i < 20; i++) {
            long before = x.digest();
            x.ends(i % 6);
            Check.same("digest() behind ends", x.digest(), before);
            x.foresee(100, 8);
            Check.same("digest() behind foresee", x.digest(), before);
            x.choose(i % 3, 5 * i, i % 5 + 1);
            Check.same("digest() behind choose", x.digest(), before);
            Check.same("pass with looks and without", x.pass(7), y.pass(7));
        }
        Check.same("digest with looks and without", x.digest(), y.digest());
    }

    private static void meanIsOfAll() {
        MuffledTolls x = new MuffledTolls();
        Check.sameDouble("without ringers", x.mean(), 0.0);
        x.ringer(9);
        x.weigh(0, 7);
        x.toll(0, 0, 9, 1);
        Check.sameDouble("nobody is tired", x.mean(), 0.0);
        x.pass(1);
        Check.sameDouble("one of one", x.mean(), 7.0);
        x.ringer(1);
        Check.sameDouble("one of two", x.mean(), 3.5);
        x.ringer(1);
        Check.sameDouble("one of three", x.mean(), 7.0 / 3);
        x.toll(1, 0, 9, 1);
        x.pass(1);
        Check.sameDouble("two of three", x.mean(), 11.0 / 3);
    }
}
