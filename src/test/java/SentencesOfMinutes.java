import java.math.BigInteger;
import java.util.function.Supplier;

/** A test for each sentence of the promises 15 to 20. */
final class SentencesOfMinutes {
    private SentencesOfMinutes() {
    }

    static void check() {
        passLetsMinutesGoBy();
        passAnswersStrokes();
        passRefuses();
        endsAnswersMinutes();
        endsOfWhatIsDone();
        endsWithinSixHundred();
        endsOfNever();
        endsChangesNothing();
        endsRefuses();
        foreseeLooksAhead();
        foreseeIsRightForEachMinute();
        foreseeChangesNothing();
        foreseeRefusesMinutes();
        foreseeRefusesWhats();
        chooseLooksForTheSoonest();
        chooseIsRightForAllTolls();
        chooseInAFullTower();
        chooseTakesTheSmallestNumber();
        chooseWithinSixHundred();
        chooseChangesNothing();
        looksLeaveNothingBehind();
        chooseRefuses();
        meanOfAll();
        meanOfNone();
        digestOfANewTower();
        digestOfAll();
        digestWrapsAround();
    }

    private static void passLetsMinutesGoBy() {
        Doc.says("Promise 15", "Lets minutes go by.", "`minutes`: how many");
        for (int minutes : new int[] {1, 2, 239, 240}) {
            MuffledTolls x = Towers.busy();
            MuffledTolls y = Towers.busy();
            int strokes = x.pass(minutes);
            int sum = 0;
            for (int i = 0; i < minutes; i++) {
                sum += y.pass(1);
            }
            Check.same("the minute", x.count(0), 11 + minutes);
            Check.same("strokes one by one", strokes, sum);
            Check.same("one by one", x.digest(), y.digest());
        }
    }

    private static void passAnswersStrokes() {
        Doc.says("Promise 15", "Returns how many strokes there are in them.");
        MuffledTolls x = Towers.strong(12);
        Check.same("without tolls", x.pass(240), 0);
        for (int bell = 0; bell < 4; bell++) {
            x.toll(bell, 0, 0, 2);
        }
        Check.same("all bells", x.pass(1), 4);
        Check.same("all bells in a pause", x.pass(3), 0);
        Check.same("all bells again", x.pass(5), 8);
        Check.same("all are done", x.pass(240), 0);
        x.toll(0, 2, 120, 1);
        Check.same("one with as many as there can be", x.pass(240), 129);
    }

    private static void passRefuses() {
        Doc.says("Promise 15", "Throws `IllegalArgumentException` if minutes is not 1 to 240");
        for (int minutes : Check.outside(1, 240)) {
            Alike.noArgument("pass(" + minutes + ")", x -> x.pass(minutes));
        }
    }

    private static void endsAnswersMinutes() {
        Doc.says("Promise 16", "`toll`: a toll", "Returns behind how many minutes it is done, if nothing is done:");
        MuffledTolls x = Towers.strong(1);
        x.toll(0, 0, 0, 1);
        Check.same("three tellers with pauses of 1", x.ends(0), 5);
        x.pass(4);
        Check.same("one", x.ends(0), 1);
        for (int toll = 0; toll < 20; toll++) {
            endsWhenItIsDone(Towers::full, toll);
            endsWhenItIsDone(Towers::busy, toll % 6);
        }
    }

    private static void endsWhenItIsDone(Supplier<MuffledTolls> made, int toll) {
        int ends = made.get().ends(toll);
        String what = "toll " + toll + ", which ends behind " + ends;
        if (ends < 0) {
            Check.isTrue(what + ": not done behind 600", Towers.later(made.get(), 600).about(toll, 7) != 2);
            return;
        }
        if (ends > 0) {
            Check.isTrue(what + ": not done before", Towers.later(made.get(), ends - 1).about(toll, 7) != 2);
        }
        Check.same(what + ": done then", Towers.later(made.get(), ends).about(toll, 7), 2);
    }

    private static void endsOfWhatIsDone() {
        Doc.says("Promise 16", "0 if it is,");
        MuffledTolls x = Towers.strong(1);
        x.toll(0, 0, 0, 1);
        x.toll(0, 0, 0, 1);
        x.stop(1);
        Check.same("one that is broken off in the minute 0", x.ends(1), 0);
        x.pass(5);
        Check.same("one that is rung", x.ends(0), 0);
        x.pass(240);
        Check.same("long ago", x.ends(0), 0);
    }

    private static void endsWithinSixHundred() {
        Doc.says("Promise 16", "at most 600; -1 if not by then");
        // tellers in 0, 10, 20, years in 30, 35, .. 30 + 5 * 114 = 600: behind 601 minutes
        MuffledTolls x = Towers.strong(12);
        x.toll(0, 0, 115, 5);
        Check.same("601", x.ends(0), -1);
        x.pass(1);
        Check.same("600", x.ends(0), 600);
        x.pass(1);
        Check.same("599", x.ends(0), 599);
        MuffledTolls y = Towers.strong(12);
        y.toll(0, 0, 0, 2);
        y.toll(0, 0, 113, 5);
        // 9 minutes for the first one, then 591
        Check.same("behind another one", y.ends(1), 600);
        y.toll(0, 0, 0, 1);
        Check.same("one more behind it", y.ends(2), -1);
    }

    private static void endsOfNever() {
        Doc.says("Promise 16", "-1 if not by then");
        MuffledTolls x = new MuffledTolls();
        x.toll(0, 0, 0, 1);
        Check.same("without ringers", x.ends(0), -1);
        x.ringer(1);
        Check.same("with one who can pull three times", x.ends(0), 5);
        x.weigh(0, 4);
        Check.same("with one who can pull twice", x.ends(0), -1);
        x.stop(0);
        Check.same("broken off", x.ends(0), 0);
    }

    private static void endsChangesNothing() {
        Doc.says("Promise 16", "(nothing is changed).");
        for (int toll = 0; toll < 20; toll++) {
            int which = toll;
            Alike.onlyAnswers(Towers::full, "ends(" + toll + ")", x -> x.ends(which));
            Alike.onlyAnswers(Towers::busy, "ends(" + toll % 6 + ")", x -> x.ends(which % 6));
        }
    }

    private static void endsRefuses() {
        Doc.says("Promise 16", "Throws `IndexOutOfBoundsException` if there is no such toll");
        Alike.noIndexBy(MuffledTolls::new, "ends(0) without tolls", x -> x.ends(0));
        for (int toll : Check.outside(0, 5)) {
            Alike.noIndexBy(Towers::busy, "ends(" + toll + ") of six", x -> x.ends(toll));
        }
        for (int toll : Check.outside(0, 19)) {
            Alike.noIndexBy(Towers::full, "ends(" + toll + ") of twenty", x -> x.ends(toll));
        }
        Alike.noIndexBy(SentencesOfMinutes::afterChoose, "ends(6) of six, behind choose", x -> x.ends(6));
    }

    /** A toll was tried out, which is none of the tower's. */
    private static MuffledTolls afterChoose() {
        MuffledTolls x = Towers.busy();
        x.choose(0, 0, 1);
        return x;
    }

    private static void foreseeLooksAhead() {
        Doc.says("Promise 17",
            "`what`: 2, 4, 5, 6 or 8 as count() has it", "Returns this, behind so many minutes, if nothing is done");
        MuffledTolls x = Towers.strong(3);
        x.fit(0, 0, 1);
        x.weigh(0, 5);
        x.toll(0, 0, 0, 1);
        x.toll(1, 0, 9, 5);
        x.send(3, 2);
        // bell 0 in 0, 2, 4, on the hand side in 0 and 4: through in 4; bell 1 in 0, 10, 20, 30, 35, .. 70
        foresees(x, 1, 3, 0, 2, 1, 1);
        foresees(x, 4, 3, 0, 3, 2, 1);
        foresees(x, 5, 2, 1, 4, 2, 0);
        foresees(x, 70, 2, 1, 14, 12, 0);
        foresees(x, 71, 1, 2, 15, 13, 0);
        foresees(x, 240, 1, 2, 15, 13, 0);
    }

    /** Those at ropes, tolls done, strokes, loud ones, and leathers on bells. */
    private static void foresees(MuffledTolls x, int minutes, long... due) {
        int[] whats = {2, 4, 5, 6, 8};
        for (int i = 0; i < 5; i++) {
            Check.same("foresee(" + minutes + ", " + whats[i] + ")", x.foresee(minutes, whats[i]), due[i]);
        }
    }

    private static void foreseeIsRightForEachMinute() {
        Doc.says("Promise 17", "`minutes`: how many, 1 to 240");
        for (int minutes = 1; minutes <= 240; minutes++) {
            foreseesWhatComes(Towers::busy, minutes);
            foreseesWhatComes(Towers::full, minutes);
        }
    }

    private static void foreseesWhatComes(Supplier<MuffledTolls> made, int minutes) {
        MuffledTolls x = made.get();
        MuffledTolls y = made.get();
        y.pass(minutes);
        for (int what : new int[] {2, 4, 5, 6, 8}) {
            Check.same("foresee(" + minutes + ", " + what + ")", x.foresee(minutes, what), y.count(what));
        }
    }

    private static void foreseeChangesNothing() {
        Doc.says("Promise 17", "(nothing is changed).");
        for (int what : new int[] {2, 4, 5, 6, 8}) {
            for (int minutes : new int[] {1, 17, 240}) {
                String call = "foresee(" + minutes + ", " + what + ")";
                Alike.onlyAnswers(MuffledTolls::new, call, x -> x.foresee(minutes, what));
                Alike.onlyAnswers(Towers::busy, call, x -> x.foresee(minutes, what));
                Alike.onlyAnswers(Towers::full, call, x -> x.foresee(minutes, what));
            }
        }
    }

    private static void foreseeRefusesMinutes() {
        Doc.says("Promise 17", "Throws `IllegalArgumentException` if minutes is not 1 to 240");
        for (int minutes : Check.outside(1, 240)) {
            Alike.noArgument("foresee(" + minutes + ", 5)", x -> x.foresee(minutes, 5));
        }
    }

    private static void foreseeRefusesWhats() {
        Doc.says("Promise 17", "Throws `IndexOutOfBoundsException` if what is none of these");
        for (int what : Check.outside(0, 8)) {
            Alike.noIndex("foresee(1, " + what + ")", x -> x.foresee(1, what));
        }
        for (int what : new int[] {0, 1, 3, 7, -2, 10, 258, 65540}) {
            Alike.noIndex("foresee(240, " + what + ")", x -> x.foresee(240, what));
        }
    }

    private static void chooseLooksForTheSoonest() {
        Doc.says("Promise 18", "Looks for the bell on which a toll that was told now would be done soonest",
            "`kind`: its kind", "`age`: the age", "`pace`: its pace");
        for (int free = 0; free < 4; free++) {
            MuffledTolls x = Towers.strong(4);
            for (int bell = 0; bell < 4; bell++) {
                x.toll(bell, 0, bell == free ? 20 : 21, 1);
            }
            Check.same("sooner by a minute", x.choose(2, 7, 5), free);
            x.toll(free, 0, 0, 1);
            Check.same("behind one more it is the latest", x.choose(2, 7, 5), free == 0 ? 1 : 0);
        }
        // 10 can be pulled: three strokes of 3, two of 4 or 5, one of 6
        MuffledTolls y = Towers.withRingers(1);
        Check.same("3 strokes, as many as can be pulled on 0", y.choose(0, 0, 1), 0);
        y.weigh(0, 4);
        Check.same("on none", y.choose(0, 0, 1), -1);
        y.weigh(3, 3);
        Check.same("on 3", y.choose(0, 0, 1), 3);
        Check.same("4 strokes on none", y.choose(0, 1, 1), -1);
        y.weigh(2, 1);
        Check.same("4 strokes on 2", y.choose(0, 1, 1), 2);
        Check.same("10 strokes on 2", y.choose(0, 7, 5), 2);
        Check.same("9 tellers and a year on 2", y.choose(2, 1, 5), 2);
        Check.same("11 strokes on none", y.choose(2, 2, 1), -1);
    }

    private static void chooseIsRightForAllTolls() {
        Doc.says("Promise 18", "Returns this bell,");
        for (int kind = 0; kind < 3; kind++) {
            for (int age : new int[] {0, 1, 7, 30, 60, 119, 120}) {
                for (int pace = 1; pace <= 5; pace++) {
                    int best = -1;
                    int soonest = 601;
                    for (int bell = 0; bell < 4; bell++) {
                        MuffledTolls y = Towers.busy();
                        int ends = y.ends(y.toll(bell, kind, age, pace));
                        if (ends >= 0 && ends < soonest) {
                            best = bell;
                            soonest = ends;
                        }
                    }
                    String call = "choose(" + kind + ", " + age + ", " + pace + ")";
                    Check.same(call, Towers.busy().choose(kind, age, pace), best);
                }
            }
        }
    }

    private static void chooseInAFullTower() {
        Doc.says("Promise 18", "(however many tolls there are).");
        for (int tolls = 0; tolls <= 20; tolls++) {
            MuffledTolls x = Towers.strong(4);
            for (int toll = 0; toll < tolls; toll++) {
                x.toll(toll < 3 ? toll : 0, 0, 9, 1);
            }
            int due = tolls < 3 ? tolls : 3;
            Check.same("with " + tolls, x.choose(0, 0, 1), due);
            Check.same("with " + tolls + ", asked again", x.choose(0, 0, 1), due);
            Check.same("still " + tolls, x.count(3), tolls);
        }
        MuffledTolls y = Towers.strong(4);
        for (int toll = 0; toll < 20; toll++) {
            y.toll(2, 0, 0, 1);
            y.stop(toll);
        }
        Check.same("with 20 that are done", y.choose(0, 0, 1), 0);
    }

    private static void chooseTakesTheSmallestNumber() {
        Doc.says("Promise 18", "of several the one with the smallest number;");
        MuffledTolls x = Towers.strong(4);
        Check.same("all alike", x.choose(1, 1, 1), 0);
        x.toll(0, 0, 9, 1);
        Check.same("1, 2 and 3 alike", x.choose(1, 1, 1), 1);
        x.toll(1, 0, 9, 1);
        Check.same("2 and 3 alike", x.choose(1, 1, 1), 2);
        x.toll(2, 0, 9, 1);
        x.toll(3, 0, 8, 1);
        Check.same("3 alone", x.choose(1, 1, 1), 3);
        x.toll(3, 0, 0, 1);
        Check.same("0, 1 and 2 alike", x.choose(1, 1, 1), 0);
    }

    private static void chooseWithinSixHundred() {
        Doc.says("Promise 18", "-1 if it would be done within 600 minutes on none");
        Check.same("without ringers", new MuffledTolls().choose(0, 0, 1), -1);
        MuffledTolls x = Towers.strong(12);
        // the last stroke of the first is in the minute 30 + 5 * 114 = 600
        Check.same("601 on all", x.choose(0, 115, 5), -1);
        Check.same("596 on all", x.choose(0, 114, 5), 0);
        // 9 minutes for the first one, then 591
        x.toll(0, 0, 0, 2);
        Check.same("9 and 591 on bell 0, 591 on bell 1", x.choose(0, 113, 5), 1);
        for (int bell = 1; bell < 4; bell++) {
            x.toll(bell, 0, 0, 2);
        }
        Check.same("600 on all", x.choose(0, 113, 5), 0);
        Check.same("605 on all", x.choose(0, 114, 5), -1);
        x.toll(0, 0, 0, 1);
        x.toll(1, 0, 0, 1);
        x.toll(2, 0, 0, 1);
        Check.same("600 on bell 3 alone", x.choose(0, 113, 5), 3);
        x.toll(3, 0, 0, 1);
        Check.same("605 on all again", x.choose(0, 113, 5), -1);
        x.pass(1);
        Check.same("604 on all", x.choose(0, 113, 5), -1);
        x.pass(4);
        Check.same("600 on all again", x.choose(0, 113, 5), 0);
    }

    private static void chooseChangesNothing() {
        Doc.says("Promise 18", "(nothing is changed).");
        for (int kind = 0; kind < 3; kind++) {
            for (int pace = 1; pace <= 5; pace++) {
                int its = kind;
                int often = pace;
                String call = "choose(" + kind + ", 40, " + pace + ")";
                Alike.onlyAnswers(MuffledTolls::new, call, x -> x.choose(its, 40, often));
                Alike.onlyAnswers(Towers::busy, call, x -> x.choose(its, 40, often));
                Alike.onlyAnswers(Towers::full, call, x -> x.choose(its, 40, often));
            }
        }
    }

    private static void looksLeaveNothingBehind() {
        Doc.says("Promise 18", "(nothing is changed).");
        MuffledTolls x = threeIsFree();
        Check.same("the soonest, and the last one that is tried", x.choose(0, 0, 1), 3);
        Check.same("tolls done in a minute, without the one that was tried", x.foresee(1, 4), 0);
        Check.same("loud strokes in a minute", x.foresee(1, 6), 3);
        Check.same("those at ropes in a minute", x.foresee(1, 2), 3);
        Check.noIndex(x, "the one that was tried", () -> x.ends(3));
        Check.same("another one", x.choose(2, 120, 5), -1);
        Check.same("the first one again", x.choose(0, 0, 1), 3);
        MuffledTolls y = threeIsFree();
        Check.same("a toll of the tower", x.toll(3, 1, 2, 3), y.toll(3, 1, 2, 3));
        Check.same("its end", x.ends(3), y.ends(3));
        Check.same("the end of another one", x.ends(0), y.ends(0));
        Check.same("strokes", x.pass(240), y.pass(240));
        Check.same("all answers", x.digest(), y.digest());
    }

    /** Four ringers, and tolls on the bells 0 to 2. */
    private static MuffledTolls threeIsFree() {
        MuffledTolls x = Towers.strong(4);
        for (int bell = 0; bell < 3; bell++) {
            x.toll(bell, 2, 90, 1);
        }
        return x;
    }

    private static void chooseRefuses() {
        Doc.says("Promise 18",
            "Throws `IllegalArgumentException` if kind is not 0 to 2, age is not 0 to 120, or pace is not 1 to 5");
        for (int kind : Check.outside(0, 2)) {
            Alike.noArgument("choose(" + kind + ", 0, 1)", x -> x.choose(kind, 0, 1));
        }
        for (int age : Check.outside(0, 120)) {
            Alike.noArgument("choose(2, " + age + ", 5)", x -> x.choose(2, age, 5));
        }
        for (int pace : Check.outside(1, 5)) {
            Alike.noArgument("choose(1, 120, " + pace + ")", x -> x.choose(1, 120, pace));
        }
        Alike.onlyAnswers(Towers::full, "choose(0, 0, 1)", x -> x.choose(0, 0, 1));
        Alike.onlyAnswers(Towers::full, "choose(2, 120, 5)", x -> x.choose(2, 120, 5));
    }

    private static void meanOfAll() {
        Doc.says("Promise 19", "Returns by how much all ringers are tired in the mean;");
        MuffledTolls x = Towers.strong(1);
        Check.sameDouble("one who is not tired", x.mean(), 0.0);
        x.weigh(0, 7);
        x.toll(0, 0, 120, 1);
        x.pass(1);
        for (int ringers = 1; ringers <= 12; ringers++) {
            Check.sameDouble("7 of " + ringers, x.mean(), 7.0 / ringers);
            if (ringers < 12) {
                x.ringer(1);
            }
        }
        x.pass(14);
        Check.sameDouble("12 strokes, as many as can be pulled", x.told(0, 1), 84);
        Check.sameDouble("84 of 12", x.mean(), 7.0);
        MuffledTolls y = Towers.strong(3);
        y.toll(0, 0, 9, 1);
        y.toll(1, 0, 9, 1);
        y.pass(1);
        Check.sameDouble("1 and 1 of 3", y.mean(), 2.0 / 3);
        y.stop(0);
        y.pass(1);
        Check.sameDouble("those who rest are counted too", y.mean(), 1.0 / 3);
    }

    private static void meanOfNone() {
        Doc.says("Promise 19", "0 if there are none.");
        MuffledTolls x = new MuffledTolls();
        Check.sameDouble("at first", x.mean(), 0.0);
        Check.isTrue("that it is no -0.0 and no NaN", Double.doubleToRawLongBits(x.mean()) == 0);
        x.toll(0, 0, 0, 1);
        x.pass(240);
        Check.sameDouble("behind 240 minutes", x.mean(), 0.0);
    }

    private static void digestOfANewTower() {
        Doc.says("Promise 20", "Computes a checksum.", "A number d starts with 1249;", "Returns d.");
        // the 53 numbers of a new tower, folded by hand (in Python)
        Check.same("digest() of a new tower", new MuffledTolls().digest(), -7181128317355806739L);
        Alike.onlyAnswers(MuffledTolls::new, "digest()", x -> x.digest());
        Alike.onlyAnswers(Towers::busy, "digest()", x -> x.digest());
    }

    private static void digestOfAll() {
        Doc.says("Promise 20", "what count() tells, in its order; for each bell what bell() tells, in its order, "
            + "and how long the leathers of its sides last, the hand side first; for each ringer what told() "
            + "tells, in its order; "
            + "for each toll what about() tells, in its order, "
            + "and the age that one counted who listens 10, 20, and so on up to 90 away.");
        digestIsFolded("without ringers and tolls", MuffledTolls::new);
        digestIsFolded("with ringers alone", () -> Towers.strong(12));
        for (int minutes = 0; minutes < 300; minutes += 7) {
            int later = minutes;
            digestIsFolded("of a busy tower, later by " + minutes, () -> Towers.later(Towers.busy(), later));
            digestIsFolded("of a full tower, later by " + minutes, () -> Towers.later(Towers.full(), later));
        }
        for (int weight = 1; weight <= 9; weight++) {
            int its = weight;
            digestIsFolded("with years of the weight " + weight, () -> yearsThroughAllLeathers(its));
        }
    }

    /** Ten strokes for years: without a leather, and through one of each thickness. */
    private static MuffledTolls yearsThroughAllLeathers(int weight) {
        MuffledTolls x = Towers.strong(12);
        x.toll(0, 0, 120, 1);
        x.pass(6);
        x.weigh(0, weight);
        for (int thick = 0; thick <= 9; thick++) {
            x.fit(0, x.bell(0, 3), thick);
            x.pass(1);
        }
        return x;
    }

    private static void digestIsFolded(String what, Supplier<MuffledTolls> made) {
        Check.same("digest() " + what, made.get().digest(), folded(made).longValue());
    }

    private static void digestWrapsAround() {
        Doc.says("Promise 20",
            "for each of the following numbers x, d becomes d * 31 + x, which wraps around as a 64-bit integer:");
        BigInteger whole = folded(MuffledTolls::new);
        Check.isTrue("that even a new tower's checksum is longer than 64 bits", whole.bitLength() > 64);
        Check.same("cut to 64 bits", new MuffledTolls().digest(), whole.longValue());
        int negative = 0;
        for (int minutes = 0; minutes < 40; minutes++) {
            int later = minutes;
            digestIsFolded("in the minute " + minutes, () -> Towers.later(new MuffledTolls(), later));
            negative += Towers.later(new MuffledTolls(), later).digest() < 0 ? 1 : 0;
        }
        Check.isTrue("that some are negative and some are not", negative > 0 && negative < 40);
    }

    /** The whole number, which does not wrap around; of two towers made alike, as an object has 512 calls. */
    private static BigInteger folded(Supplier<MuffledTolls> made) {
        BigInteger d = BigInteger.valueOf(1249);
        MuffledTolls x = made.get();
        for (int what = 0; what < 9; what++) {
            d = with(d, x.count(what));
        }
        for (int bell = 0; bell < 4; bell++) {
            for (int what = 0; what < 9; what++) {
                d = with(d, x.bell(bell, what));
            }
            d = with(with(d, x.lasts(bell, 0)), x.lasts(bell, 1));
        }
        int ringers = x.count(1);
        for (int ringer = 0; ringer < ringers; ringer++) {
            for (int what = 0; what < 5; what++) {
                d = with(d, x.told(ringer, what));
            }
        }
        int tolls = x.count(3);
        MuffledTolls y = made.get();
        for (int toll = 0; toll < tolls; toll++) {
            for (int what = 0; what < 9; what++) {
                d = with(d, y.about(toll, what));
            }
            for (int far = 10; far <= 90; far += 10) {
                d = with(d, y.heard(toll, far));
            }
        }
        return d;
    }

    private static BigInteger with(BigInteger d, int x) {
        return d.multiply(BigInteger.valueOf(31)).add(BigInteger.valueOf(x));
    }
}
