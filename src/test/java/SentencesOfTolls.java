/** A test for each sentence of the promises 10 to 14. */
final class SentencesOfTolls {
    private SentencesOfTolls() {
    }

    static void check() {
        newToll();
        tollRefusesBells();
        tollRefusesKindsAgesPaces();
        tollRefusesTheTwentyFirst();
        stopEndsAToll();
        stopEndsThePause();
        stopOfOneThatStillWaits();
        stopOfAnotherOne();
        stopFreesTheRope();
        stopAnswersWhatIsLeftOut();
        stopRefusesNumbers();
        stopRefusesWhatIsDone();
        aboutTells();
        aboutTellsTheMinute();
        aboutRefuses();
        heardCountsYears();
        heardFromNearAndFar();
        heardRefusesNumbers();
        heardRefusesDistances();
        countTells();
        countRefuses();
    }

    private static void newToll() {
        Doc.says("Promise 10",
            "`bell`: the bell of a new toll", "`kind`: its kind", "`age`: the age", "`pace`: its pace",
            "Returns its number.");
        MuffledTolls x = new MuffledTolls();
        Check.same("the first one", x.toll(3, 2, 120, 5), 0);
        for (int number = 1; number < 19; number++) {
            x.toll(0, 0, 0, 1);
        }
        Check.same("the twentieth", x.toll(1, 1, 60, 3), 19);
        long[][] due = {{3, 2, 120, 5}, {1, 1, 60, 3}};
        for (int what = 0; what < 4; what++) {
            Check.same("about(0, " + what + ")", x.about(0, what), due[0][what]);
            Check.same("about(19, " + what + ")", x.about(19, what), due[1][what]);
        }
        MuffledTolls y = Towers.busy();
        y.stop(0);
        Check.same("a number of one that is done is not given again", y.toll(0, 0, 0, 1), 6);
    }

    private static void tollRefusesBells() {
        Doc.says("Promise 10", "Throws `IndexOutOfBoundsException` if bell is not 0 to 3");
        for (int bell : Check.outside(0, 3)) {
            Alike.noIndex("toll(" + bell + ", 0, 0, 1)", x -> x.toll(bell, 0, 0, 1));
            Alike.noIndex("toll(" + bell + ", 2, 120, 5)", x -> x.toll(bell, 2, 120, 5));
        }
    }

    private static void tollRefusesKindsAgesPaces() {
        Doc.says("Promise 10",
            "Throws `IllegalArgumentException` if kind is not 0 to 2, age is not 0 to 120, or pace is not 1 to 5");
        for (int kind : Check.outside(0, 2)) {
            Alike.noArgument("toll of the kind " + kind, x -> x.toll(0, kind, 0, 1));
        }
        for (int age : Check.outside(0, 120)) {
            Alike.noArgument("toll of the age " + age, x -> x.toll(3, 2, age, 5));
        }
        for (int pace : Check.outside(1, 5)) {
            Alike.noArgument("toll of the pace " + pace, x -> x.toll(1, 1, 120, pace));
        }
    }

    private static void tollRefusesTheTwentyFirst() {
        Doc.says("Promise 10", "Throws `IllegalStateException` if there are 20");
        for (int bell = 0; bell < 4; bell++) {
            int which = bell;
            Alike.noStateBy(Towers::full, "toll(" + bell + ", 0, 0, 1)", x -> x.toll(which, 0, 0, 1));
            Alike.noStateBy(SentencesOfTolls::allDone, "toll(" + bell + ", 2, 120, 5)", x -> x.toll(which, 2, 120, 5));
        }
        MuffledTolls y = new MuffledTolls();
        for (int toll = 0; toll < 20; toll++) {
            y.toll(0, 0, 0, 1);
        }
        Check.same("20 are fine", y.count(3), 20);
        Check.noState(y, "21 are not", () -> y.toll(0, 0, 0, 1));
    }

    /** There are 20 tolls, all of them done. */
    private static MuffledTolls allDone() {
        MuffledTolls x = Towers.full();
        for (int toll = 0; toll < 20; toll++) {
            if (x.about(toll, 7) != 2) {
                x.stop(toll);
            }
        }
        return x;
    }

    private static void stopEndsAToll() {
        Doc.says("Promise 11",
            "Breaks a toll off: it is done in this minute, without its other strokes.", "`toll`: the toll");
        MuffledTolls x = Towers.strong(1);
        x.toll(0, 0, 9, 1);
        x.pass(1);
        x.stop(0);
        Check.same("done", x.about(0, 7), 2);
        Check.same("in the minute 1", x.about(0, 8), 1);
        Check.same("those done", x.count(4), 1);
        Check.same("without other strokes", x.pass(240), 0);
        Check.same("its strokes", x.about(0, 4), 1);
        Check.same("strokes in all", x.count(5), 1);
        MuffledTolls y = Towers.strong(1);
        y.toll(0, 0, 9, 1);
        y.stop(0);
        Check.same("in the minute 0", y.about(0, 8), 0);
        Check.same("done without any stroke", y.about(0, 7), 2);
    }

    private static void stopEndsThePause() {
        Doc.says("Promise 11",
            "If it was that with which its bell goes on (also if it still waited), there is no pause any more;");
        MuffledTolls x = Towers.strong(2);
        x.toll(0, 0, 9, 5);
        x.toll(0, 0, 9, 5);
        x.toll(1, 0, 9, 5);
        x.pass(1);
        Check.same("a pause", x.bell(0, 6), 9);
        x.stop(0);
        Check.same("no pause", x.bell(0, 6), 0);
        Check.same("the other bell's pause stays", x.bell(1, 6), 9);
        Check.same("the next one is at once", x.pass(1), 1);
        x.stop(1);
        Check.same("no pause behind the last one", x.bell(0, 6), 0);
        x.toll(0, 0, 0, 1);
        Check.same("a new one is at once", x.pass(1), 1);
    }

    private static void stopOfOneThatStillWaits() {
        Doc.says("Promise 11", "(also if it still waited)");
        MuffledTolls x = Towers.strong(2);
        x.toll(2, 0, 0, 3);
        x.toll(2, 0, 0, 3);
        x.toll(2, 0, 0, 3);
        x.send(2, 1);
        x.stop(0);
        Check.same("no pause", x.bell(2, 6), 0);
        Check.same("the next one goes on", x.bell(2, 5), 1);
        Check.same("who was sent stays", x.bell(2, 4), 1);
        x.pass(13);
        Check.same("the second is done", x.about(1, 7), 2);
        Check.same("the third waits", x.about(2, 7), 0);
        x.stop(2);
        Check.same("no pause then", x.bell(2, 6), 0);
        Check.same("none goes on", x.bell(2, 5), -1);
        Check.same("nobody stays", x.bell(2, 4), -1);
    }

    private static void stopOfAnotherOne() {
        Doc.says("Promise 11",
            "If it was that with which its bell goes on (also if it still waited), there is no pause any more;");
        MuffledTolls x = Towers.strong(2);
        x.toll(0, 0, 1, 5);
        x.toll(0, 0, 0, 1);
        x.toll(0, 0, 0, 1);
        x.pass(2);
        x.stop(1);
        Check.same("if it was not, the pause stays", x.bell(0, 6), 8);
        Check.same("the bell goes on", x.bell(0, 5), 0);
        x.stop(2);
        Check.same("though it was the last of the others", x.bell(0, 6), 8);
        Check.same("whoever is at the rope stays", x.bell(0, 4), 0);
        Check.same("the bell's tolls", x.bell(0, 7), 1);
        x.pass(29);
        Check.same("the rest of the first one", x.about(0, 7), 2);
        Check.same("the second is passed over", x.bell(0, 5), -1);
    }

    private static void stopFreesTheRope() {
        Doc.says("Promise 11", "if the bell has no other one that is not done, whoever is at its rope rests.");
        MuffledTolls x = Towers.strong(3);
        x.toll(1, 0, 9, 1);
        x.toll(1, 0, 9, 1);
        x.toll(3, 0, 9, 1);
        x.send(2, 2);
        x.pass(1);
        x.stop(0);
        Check.same("there is another one", x.bell(1, 4), 0);
        x.stop(1);
        Check.same("there is none", x.bell(1, 4), -1);
        Check.same("this one rests", x.told(0, 2), -1);
        Check.same("who is at another rope stays", x.bell(3, 4), 1);
        Check.same("also at one without tolls", x.bell(2, 4), 2);
        Check.same("those at ropes", x.count(2), 2);
        Check.same("not less tired before the minute goes by", x.told(0, 1), 1);
        MuffledTolls y = Towers.strong(1);
        y.toll(0, 0, 0, 1);
        Check.same("nobody is at the rope", y.stop(0), 3);
        Check.same("nobody then", y.bell(0, 4), -1);
    }

    private static void stopAnswersWhatIsLeftOut() {
        Doc.says("Promise 11", "Returns how many strokes are left out by this.");
        for (int kind = 0; kind < 3; kind++) {
            for (int age : new int[] {0, 1, 120}) {
                int all = 3 * kind + 3 + age;
                for (int strokes : new int[] {0, 1, 3, all - 1}) {
                    if (strokes >= all) {
                        continue;
                    }
                    MuffledTolls x = Towers.strong(2);
                    x.toll(0, kind, age, 1);
                    for (int i = 0; i < strokes; i++) {
                        Towers.tillStroke(x);
                    }
                    Check.same(all + " behind " + strokes, x.stop(0), all - strokes);
                }
            }
        }
    }

    private static void stopRefusesNumbers() {
        Doc.says("Promise 11", "Throws `IndexOutOfBoundsException` if there is no such toll");
        Alike.noIndexBy(MuffledTolls::new, "stop(0) without tolls", x -> x.stop(0));
        for (int toll : Check.outside(0, 5)) {
            Alike.noIndexBy(Towers::busy, "stop(" + toll + ") of six", x -> x.stop(toll));
        }
        for (int toll : Check.outside(0, 19)) {
            Alike.noIndexBy(Towers::full, "stop(" + toll + ") of twenty", x -> x.stop(toll));
        }
        MuffledTolls y = new MuffledTolls();
        for (int toll = 0; toll < 20; toll++) {
            y.toll(0, 0, 0, 1);
        }
        Check.same("stop(19) of twenty", y.stop(19), 3);
        Check.same("stop(0) of twenty", y.stop(0), 3);
    }

    private static void stopRefusesWhatIsDone() {
        Doc.says("Promise 11", "Throws `IllegalStateException` if it is done");
        for (int toll = 0; toll < 20; toll++) {
            int which = toll;
            Alike.noStateBy(SentencesOfTolls::allDone, "stop(" + toll + ")", x -> x.stop(which));
        }
        MuffledTolls y = Towers.strong(1);
        y.toll(0, 0, 0, 1);
        y.toll(0, 0, 0, 1);
        y.pass(4);
        y.pass(1);
        Check.noState(y, "one behind its last stroke", () -> y.stop(0));
        Check.same("one before its first", y.stop(1), 3);
        Check.noState(y, "one that is broken off", () -> y.stop(1));
    }

    private static void aboutTells() {
        Doc.says("Promise 12",
            "`toll`: a toll", "`what`: 0 its bell, 1 its kind, 2 the age, 3 its pace, 4 its strokes so far, "
            + "5 those of these that were loud, 6 those of these that were for years of the age, "
            + "7 0 if it waits, 1 if it rings, 2 if it is done,", "Returns this.");
        MuffledTolls x = Towers.strong(1);
        x.toll(3, 2, 3, 2);
        x.toll(3, 0, 0, 1);
        tells(x, 0, 3, 2, 3, 2, 0, 0, 0, 0, -1);
        // tellers in 0, 2, 4, 8, 10, 12, 16, 18, 20, years in 24, 26, 28
        x.pass(1);
        tells(x, 0, 3, 2, 3, 2, 1, 1, 0, 1, -1);
        x.fit(3, 1, 9);
        x.pass(20);
        tells(x, 0, 3, 2, 3, 2, 9, 5, 0, 1, -1);
        x.pass(4);
        tells(x, 0, 3, 2, 3, 2, 10, 5, 1, 1, -1);
        x.pass(3);
        tells(x, 0, 3, 2, 3, 2, 11, 6, 2, 1, -1);
        tells(x, 1, 3, 0, 0, 1, 0, 0, 0, 0, -1);
        x.pass(1);
        tells(x, 0, 3, 2, 3, 2, 12, 6, 3, 2, 28);
        tells(x, 1, 3, 0, 0, 1, 0, 0, 0, 0, -1);
        x.pass(1);
        tells(x, 1, 3, 0, 0, 1, 1, 1, 0, 1, -1);
    }

    private static void tells(MuffledTolls x, int toll, long... due) {
        for (int what = 0; what < 9; what++) {
            Check.same("about(" + toll + ", " + what + ") in the minute " + x.count(0), x.about(toll, what), due[what]);
        }
    }

    private static void aboutTellsTheMinute() {
        Doc.says("Promise 12", "8 the minute in which it was done, -1 if it is not");
        MuffledTolls x = Towers.strong(1);
        for (int toll = 0; toll < 3; toll++) {
            x.toll(0, 0, 0, 1);
        }
        x.stop(2);
        Check.same("broken off in the minute 0", x.about(2, 8), 0);
        Check.same("waits", x.about(1, 8), -1);
        x.pass(4);
        Check.same("rings", x.about(0, 8), -1);
        x.pass(1);
        Check.same("its last stroke was in the minute 4", x.about(0, 8), 4);
        x.stop(1);
        Check.same("broken off in the minute 5", x.about(1, 8), 5);
    }

    private static void aboutRefuses() {
        Doc.says("Promise 12", "Throws `IndexOutOfBoundsException` if there is no such toll, or what is not 0 to 8");
        Alike.noIndexBy(MuffledTolls::new, "about(0, 0) without tolls", x -> x.about(0, 0));
        for (int toll : Check.outside(0, 5)) {
            Alike.noIndexBy(Towers::busy, "about(" + toll + ", 0) of six", x -> x.about(toll, 0));
        }
        for (int toll : Check.outside(0, 19)) {
            Alike.noIndexBy(Towers::full, "about(" + toll + ", 8) of twenty", x -> x.about(toll, 8));
        }
        for (int what : Check.outside(0, 8)) {
            Alike.noIndexBy(Towers::full, "about(19, " + what + ")", x -> x.about(19, what));
        }
        for (int what = 0; what <= 8; what++) {
            int asked = what;
            Alike.onlyAnswers(Towers::full, "about(19, " + what + ")", x -> x.about(19, asked));
        }
    }

    private static void heardCountsYears() {
        Doc.says("Promise 13", "`toll`: a toll",
            "Returns the age that one counted so far: its strokes for years whose reach was as far, or farther.");
        MuffledTolls x = Towers.strong(4);
        x.weigh(0, 9);
        x.toll(0, 1, 9, 1);
        Check.same("none so far", x.heard(0, 0), 0);
        x.pass(8);
        Check.same("tellers do not count", x.heard(0, 0), 0);
        for (int year = 1; year <= 9; year++) {
            x.weigh(0, year);
            Towers.tillStroke(x);
            Check.same("behind year " + year, x.heard(0, 0), year);
            Check.same("as far as " + 10 * year, x.heard(0, 10 * year), 1);
            Check.same("as far as " + (10 * year - 9), x.heard(0, 10 * year - 9), 1);
            Check.same("as far as the one before, or farther", x.heard(0, 10 * year - 10), year == 1 ? 1 : 2);
        }
        Check.same("another toll", x.heard(x.toll(0, 0, 9, 1), 0), 0);
    }

    private static void heardFromNearAndFar() {
        Doc.says("Promise 13", "`far`: how far away one listens, 0 to 90");
        MuffledTolls x = SentencesOfTerms.strokeOfAYear(9, 0);
        MuffledTolls y = SentencesOfTerms.strokeOfAYear(1, 9);
        for (int far : new int[] {0, 1, 89, 90}) {
            Check.same("the farthest reach, from " + far, x.heard(0, far), 1);
            Check.same("the nearest reach, from " + far, y.heard(0, far), far <= 1 ? 1 : 0);
        }
        Check.noArgument(x, "from -1", () -> x.heard(0, -1));
        Check.noArgument(x, "from 91", () -> x.heard(0, 91));
    }

    private static void heardRefusesNumbers() {
        Doc.says("Promise 13", "Throws `IndexOutOfBoundsException` if there is no such toll");
        Alike.noIndexBy(MuffledTolls::new, "heard(0, 0) without tolls", x -> x.heard(0, 0));
        for (int toll : Check.outside(0, 5)) {
            Alike.noIndexBy(Towers::busy, "heard(" + toll + ", 0) of six", x -> x.heard(toll, 0));
        }
        for (int toll : Check.outside(0, 19)) {
            Alike.noIndexBy(Towers::full, "heard(" + toll + ", 90) of twenty", x -> x.heard(toll, 90));
        }
        Alike.onlyAnswers(Towers::full, "heard(19, 90)", x -> x.heard(19, 90));
    }

    private static void heardRefusesDistances() {
        Doc.says("Promise 13", "Throws `IllegalArgumentException` if far is not 0 to 90");
        for (int far : Check.outside(0, 90)) {
            Alike.noArgumentBy(Towers::busy, "heard(0, " + far + ")", x -> x.heard(0, far));
            Alike.noArgumentBy(Towers::full, "heard(19, " + far + ")", x -> x.heard(19, far));
        }
    }

    private static void countTells() {
        Doc.says("Promise 14",
            "`what`: 0 the minute, 1 ringers, 2 those who are at a rope, 3 tolls, 4 those that are done, "
            + "5 strokes in all, 6 those of these that were loud, 7 leathers in the store, 8 leathers on "
            + "bells", "Returns this.");
        MuffledTolls x = new MuffledTolls();
        counts(x, 0, 0, 0, 0, 0, 0, 0, 20, 0);
        for (int ringer = 0; ringer < 12; ringer++) {
            x.ringer(9);
        }
        counts(x, 0, 12, 0, 0, 0, 0, 0, 20, 0);
        for (int bell = 0; bell < 4; bell++) {
            x.send(bell, 3 * bell);
        }
        counts(x, 0, 12, 4, 0, 0, 0, 0, 20, 0);
        for (int toll = 0; toll < 20; toll++) {
            x.toll(toll % 4, 0, 0, 1);
        }
        counts(x, 0, 12, 4, 20, 0, 0, 0, 20, 0);
        for (int side = 0; side < 8; side++) {
            x.fit(side / 2, side % 2, 9);
        }
        counts(x, 0, 12, 4, 20, 0, 0, 0, 12, 8);
        x.fit(0, 0, 0);
        x.pass(1);
        counts(x, 1, 12, 4, 20, 0, 4, 1, 12, 7);
        x.pass(4);
        counts(x, 5, 12, 4, 20, 4, 12, 2, 12, 7);
        x.stop(19);
        counts(x, 5, 12, 4, 20, 5, 12, 2, 12, 7);
        x.store(50);
        x.store(50);
        counts(x, 5, 12, 4, 20, 5, 12, 2, 99, 7);
        for (int side = 0; side < 8; side++) {
            x.fit(side / 2, side % 2, 0);
        }
        x.pass(240);
        counts(x, 245, 12, 0, 20, 20, 57, 47, 99, 0);
    }

    private static void counts(MuffledTolls x, long... due) {
        for (int what = 0; what < 9; what++) {
            Check.same("count(" + what + ") in the minute " + due[0], x.count(what), due[what]);
        }
    }

    private static void countRefuses() {
        Doc.says("Promise 14", "Throws `IndexOutOfBoundsException` if what is not 0 to 8");
        for (int what : Check.outside(0, 8)) {
            Alike.noIndex("count(" + what + ")", x -> x.count(what));
        }
        for (int what = 0; what <= 8; what++) {
            int asked = what;
            Alike.onlyAnswers(MuffledTolls::new, "count(" + what + ")", x -> x.count(asked));
        }
    }
}
