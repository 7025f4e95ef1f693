/** Promises 10 to 14: toll, stop, about, heard, count; and how a toll's strokes go. */
public final class TollsTest {

    public static void main(String[] args) {
        tollsAreNumbered();
        tollRefuses();
        strokesAreTellersAndYears();
        pausesOfEveryPace();
        noPauseBehindTheLastStroke();
        tollsWaitForEachOther();
        sidesGoOnThroughTolls();
        stopOfARingingToll();
        stopOfAWaitingToll();
        stopOfTheFirstThatWaits();
        stopRefuses();
        aboutTellsAll();
        aboutRefuses();
        heardIsOfYearsAlone();
        heardThroughLeathers();
        heardRefuses();
        countTellsAll();
        countRefuses();
        Check.finish();
    }

    private static void tollsAreNumbered() {
        MuffledTolls x = new MuffledTolls();
        for (int toll = 0; toll < 20; toll++) {
            Check.same("toll " + toll, x.toll(toll % 4, toll % 3, 6 * toll, toll % 5 + 1), toll);
            Check.same("how many", x.count(3), toll + 1);
        }
        Check.same("those of a bell", x.bell(3, 7), 5);
        Check.same("the first of a bell", x.bell(3, 5), 3);
        Check.noState(x, "a toll beyond 20", () -> x.toll(0, 0, 0, 1));
        Check.noArgument(x, "a wrong kind beyond 20", () -> x.toll(0, 3, 0, 1));
        Check.noIndex(x, "a wrong bell beyond 20", () -> x.toll(4, 3, 0, 1));
        x.stop(0);
        Check.noState(x, "a done one makes no room", () -> x.toll(0, 0, 0, 1));
    }

    private static void tollRefuses() {
        MuffledTolls x = new MuffledTolls();
        for (int bell : new int[] {-1, 4, Integer.MIN_VALUE, Integer.MAX_VALUE}) {
            Check.noIndex(x, "toll of bell " + bell, () -> x.toll(bell, 0, 0, 1));
            Check.noIndex(x, "toll of bell " + bell + ", all wrong", () -> x.toll(bell, -1, -1, 0));
        }
        for (int kind : new int[] {-1, 3, Integer.MIN_VALUE, Integer.MAX_VALUE}) {
            Check.noArgument(x, "toll of kind " + kind, () -> x.toll(0, kind, 0, 1));
        }
        for (int age : new int[] {-1, 121, Integer.MIN_VALUE, Integer.MAX_VALUE}) {
            Check.noArgument(x, "toll of age " + age, () -> x.toll(0, 0, age, 1));
        }
        for (int pace : new int[] {0, 6, -1, Integer.MIN_VALUE, Integer.MAX_VALUE}) {
            Check.noArgument(x, "toll of pace " + pace, () -> x.toll(0, 0, 0, pace));
        }
        Check.same("the greatest of all", x.toll(3, 2, 120, 5), 0);
        Check.same("the least of all", x.toll(0, 0, 0, 1), 1);
    }

    private static void strokesAreTellersAndYears() {
        for (int kind = 0; kind < 3; kind++) {
            for (int age : new int[] {0, 1, 7, 120}) {
                MuffledTolls x = Towers.strong(2);
                x.toll(0, kind, age, 1);
                int due = 3 * (kind + 1) + age;
                int strokes = x.pass(240);
                Check.same("strokes of " + kind + ", " + age, strokes, due);
                Check.same("of these for years", x.about(0, 6), age);
                Check.same("done", x.about(0, 7), 2);
                // three groups of tellers, each with a pause of 1 behind it but at the end
                int minutes = due + (age == 0 ? 2 : 3);
                Check.same("done in", x.about(0, 8), minutes - 1);
            }
        }
    }

    private static void pausesOfEveryPace() {
        for (int pace = 1; pace <= 5; pace++) {
            MuffledTolls x = Towers.strong(1);
            x.toll(1, 1, 3, pace);
            // the tellers 2, 4 and 6 end groups; 7 and 8 are for years and 9 is the last
            for (int stroke = 1; stroke <= 8; stroke++) {
                boolean groupEnds = stroke == 2 || stroke == 4 || stroke == 6;
                int pause = groupEnds ? 2 * pace - 1 : pace - 1;
                Check.same("pace " + pace + ": stroke " + stroke, x.pass(1), 1);
                Check.same("pace " + pace + ": the pause behind " + stroke, x.bell(1, 6), pause);
                if (pause > 0) {
                    Check.same("pace " + pace + ": no stroke in it", x.pass(pause), 0);
                }
                Check.same("pace " + pace + ": the pause is over", x.bell(1, 6), 0);
            }
            Check.same("pace " + pace + ": the last stroke", x.pass(1), 1);
            Check.same("pace " + pace + ": no pause behind it", x.bell(1, 6), 0);
            Check.same("pace " + pace + ": done", x.about(0, 7), 2);
        }
    }

    private static void noPauseBehindTheLastStroke() {
        MuffledTolls x = Towers.strong(1);
        x.toll(0, 0, 0, 5);
        x.toll(0, 0, 0, 5);
        x.pass(21);
        Check.same("the first is done by its last teller", x.about(0, 8), 20);
        Check.same("no pause", x.bell(0, 6), 0);
        Check.same("whoever is at the rope stays for the next", x.bell(0, 4), 0);
        Check.same("which waits", x.about(1, 7), 0);
        Check.same("its first stroke is in the next minute", x.pass(1), 1);
        Check.same("it rings", x.about(1, 7), 1);
        Check.same("without another relief", x.told(0, 4), 1);
    }

    private static void tollsWaitForEachOther() {
        MuffledTolls x = Towers.strong(2);
        x.toll(2, 0, 2, 1);
        x.toll(1, 0, 0, 1);
        x.toll(2, 0, 0, 1);
        x.toll(2, 0, 1, 2);
        Check.same("bell 2 goes on with", x.bell(2, 5), 0);
        x.pass(8);
        Check.same("the first is done", x.about(0, 8), 7);
        Check.same("bell 2 goes on with the next of its own", x.bell(2, 5), 2);
        x.pass(5);
        Check.same("that one is done", x.about(2, 8), 12);
        Check.same("then with the last", x.bell(2, 5), 3);
        Check.same("not done", x.bell(2, 7), 1);
        x.pass(60);
        Check.same("with none", x.bell(2, 5), -1);
        Check.same("all are done", x.count(4), 4);
        Check.same("strokes of bell 2", x.bell(2, 8), 5 + 3 + 4);
    }

    private static void sidesGoOnThroughTolls() {
        MuffledTolls x = Towers.strong(1);
        x.toll(0, 0, 0, 1);
        x.pass(5);
        Check.same("behind three strokes", x.bell(0, 3), 1);
        x.fit(0, 1, 9);
        x.toll(0, 0, 0, 1);
        x.pass(1);
        Check.same("the next toll begins on the back side", x.about(1, 4), 1);
        Check.same("muffled", x.about(1, 5), 0);
        Check.same("then the hand side", x.bell(0, 3), 0);
        x.stop(1);
        Check.same("also behind a stop", x.bell(0, 3), 0);
    }

    private static void stopOfARingingToll() {
        MuffledTolls x = Towers.strong(1);
        x.toll(0, 2, 30, 4);
        x.toll(0, 0, 0, 1);
        x.pass(1);
        Check.same("a pause", x.bell(0, 6), 3);
        Check.same("left out", x.stop(0), 38);
        Check.same("no pause any more", x.bell(0, 6), 0);
        Check.same("done in this minute", x.about(0, 8), 1);
        Check.same("done", x.about(0, 7), 2);
        Check.same("whoever is at the rope stays for the other toll", x.bell(0, 4), 0);
        Check.same("the other one is next", x.bell(0, 5), 1);
        Check.same("at once", x.pass(1), 1);
        Check.same("its strokes stay", x.about(0, 4), 1);
        Check.same("left out of the other", x.stop(1), 2);
        Check.same("then whoever was at the rope rests", x.told(0, 2), -1);
        Check.same("the rope is free", x.bell(0, 4), -1);
        Check.same("no more strokes", x.pass(100), 0);
    }

    private static void stopOfAWaitingToll() {
        MuffledTolls x = Towers.strong(1);
        x.toll(0, 0, 5, 5);
        x.toll(0, 1, 10, 1);
        x.toll(0, 0, 0, 1);
        x.pass(3);
        Check.same("a pause", x.bell(0, 6), 7);
        Check.same("left out", x.stop(1), 16);
        Check.same("the pause stays", x.bell(0, 6), 7);
        Check.same("the bell goes on", x.bell(0, 5), 0);
        Check.same("not done", x.bell(0, 7), 2);
        Check.same("whoever is at the rope stays", x.bell(0, 4), 0);
        x.pass(100);
        Check.same("the stopped one is passed over", x.about(1, 4), 0);
        Check.same("the third is done", x.about(2, 7), 2);
        Check.same("done at the stop", x.about(1, 8), 3);
    }

    private static void stopOfTheFirstThatWaits() {
        MuffledTolls x = Towers.strong(2);
        x.toll(3, 0, 5, 1);
        x.send(3, 1);
        Check.same("left out", x.stop(0), 8);
        Check.same("done in the minute 0", x.about(0, 8), 0);
        Check.same("done", x.about(0, 7), 2);
        Check.same("who was sent rests", x.told(1, 2), -1);
        x.send(3, 0);
        x.toll(3, 0, 0, 1);
        x.toll(3, 0, 0, 1);
        x.stop(1);
        Check.same("who was sent stays for the other toll", x.bell(3, 4), 0);
        Check.same("ends of a stopped one", x.ends(1), 0);
    }

    private static void stopRefuses() {
        MuffledTolls x = Towers.strong(1);
        Check.noIndex(x, "stop(0) without tolls", () -> x.stop(0));
        x.toll(0, 0, 0, 1);
        x.toll(0, 0, 0, 1);
        x.pass(5);
        Check.noState(x, "stop of one that is rung", () -> x.stop(0));
        x.stop(1);
        Check.noState(x, "stop of a stopped one", () -> x.stop(1));
        for (int toll : new int[] {-1, 2, 20, Integer.MIN_VALUE, Integer.MAX_VALUE}) {
            Check.noIndex(x, "stop(" + toll + ")", () -> x.stop(toll));
        }
    }

    private static void aboutTellsAll() {
        MuffledTolls x = Towers.strong(1);
        x.fit(1, 1, 9);
        x.toll(1, 1, 4, 2);
        long[] atFirst = {1, 1, 4, 2, 0, 0, 0, 0, -1};
        tells(x, "at first", atFirst);
        // strokes in 0, 2, 6, 8, 12, 14 are tellers, those in 18, 20, 22, 24 for years
        x.pass(1);
        long[] begun = {1, 1, 4, 2, 1, 1, 0, 1, -1};
        tells(x, "begun", begun);
        x.pass(14);
        long[] tellers = {1, 1, 4, 2, 6, 3, 0, 1, -1};
        tells(x, "behind the tellers", tellers);
        x.pass(4);
        long[] year = {1, 1, 4, 2, 7, 4, 1, 1, -1};
        tells(x, "in the years", year);
        x.pass(6);
        long[] done = {1, 1, 4, 2, 10, 5, 4, 2, 24};
        tells(x, "done", done);
    }

    private static void tells(MuffledTolls x, String when, long[] due) {
        for (int what = 0; what < 9; what++) {
            Check.same(when + ": about(0, " + what + ")", x.about(0, what), due[what]);
        }
    }

    private static void aboutRefuses() {
        MuffledTolls x = new MuffledTolls();
        x.toll(0, 0, 0, 1);
        for (int toll : new int[] {-1, 1, 20, Integer.MIN_VALUE, Integer.MAX_VALUE}) {
            Check.noIndex(x, "about(" + toll + ", 0)", () -> x.about(toll, 0));
        }
        for (int what : new int[] {-1, 9, Integer.MIN_VALUE, Integer.MAX_VALUE}) {
            Check.noIndex(x, "about(0, " + what + ")", () -> x.about(0, what));
        }
    }

    private static void heardIsOfYearsAlone() {
        // two, since ten strokes of 9 are all that one can pull
        MuffledTolls x = Towers.strong(2);
        x.weigh(2, 9);
        x.toll(2, 2, 6, 1);
        x.pass(12);
        Check.same("tellers do not count", x.heard(0, 0), 0);
        x.pass(1);
        Check.same("a year", x.heard(0, 0), 1);
        Check.same("as far as 90", x.heard(0, 90), 1);
        x.weigh(2, 1);
        x.pass(3);
        Check.same("as far as 90", x.heard(0, 90), 1);
        Check.same("as far as 11", x.heard(0, 11), 1);
        Check.same("as far as 10", x.heard(0, 10), 4);
        x.pass(2);
        Check.same("all of them", x.heard(0, 0), 6);
        Check.same("one of another toll", x.heard(x.toll(2, 0, 9, 1), 0), 0);
    }

    private static void heardThroughLeathers() {
        MuffledTolls x = Towers.strong(1);
        x.weigh(0, 7);
        x.toll(0, 0, 20, 1);
        x.pass(6);
        // 70 / (1 + thick), cut: 4 thick is 14, 9 thick is 7; the next stroke is on the back side
        x.fit(0, 1, 4);
        x.fit(0, 0, 9);
        x.pass(2);
        Check.same("0 away", x.heard(0, 0), 2);
        Check.same("7 away", x.heard(0, 7), 2);
        Check.same("8 away", x.heard(0, 8), 1);
        Check.same("14 away", x.heard(0, 14), 1);
        Check.same("15 away", x.heard(0, 15), 0);
        x.fit(0, 1, 1);
        x.fit(0, 0, 2);
        x.pass(2);
        Check.same("23 away", x.heard(0, 23), 2);
        Check.same("24 away", x.heard(0, 24), 1);
        Check.same("35 away", x.heard(0, 35), 1);
        Check.same("36 away", x.heard(0, 36), 0);
        Check.same("those before too", x.heard(0, 7), 4);
        x.pass(2);
        Check.same("the stroke that wears it through is still muffled", x.heard(0, 35), 2);
        Check.same("through", x.bell(0, 2), 0);
        x.pass(2);
        Check.same("then it is loud", x.heard(0, 70), 1);
    }

    private static void heardRefuses() {
        MuffledTolls x = new MuffledTolls();
        x.toll(0, 0, 0, 1);
        for (int toll : new int[] {-1, 1, 20, Integer.MIN_VALUE, Integer.MAX_VALUE}) {
            Check.noIndex(x, "heard(" + toll + ", 0)", () -> x.heard(toll, 0));
            Check.noIndex(x, "heard(" + toll + ", 91)", () -> x.heard(toll, 91));
        }
        for (int far : new int[] {-1, 91, Integer.MIN_VALUE, Integer.MAX_VALUE}) {
            Check.noArgument(x, "heard(0, " + far + ")", () -> x.heard(0, far));
        }
        Check.same("heard(0, 90)", x.heard(0, 90), 0);
    }

    private static void countTellsAll() {
        MuffledTolls x = Towers.strong(3);
        x.fit(0, 0, 5);
        x.fit(0, 1, 1);
        x.fit(3, 1, 1);
        x.toll(0, 0, 0, 1);
        x.toll(1, 0, 9, 1);
        x.toll(3, 0, 2, 5);
        x.pass(5);
        // bell 0: hand, back, hand, all muffled; bell 1: loud in 0, 2, 4; bell 3: loud in 0
        long[] due = {5, 3, 2, 3, 1, 7, 4, 17, 3};
        for (int what = 0; what < 9; what++) {
            Check.same("count(" + what + ")", x.count(what), due[what]);
        }
        x.stop(1);
        Check.same("a stopped one is done", x.count(4), 2);
        Check.same("its loud strokes stay", x.count(6), 4);
        Check.same("those at ropes", x.count(2), 1);
    }

    private static void countRefuses() {
        MuffledTolls x = new MuffledTolls();
        for (int what : new int[] {-1, 9, Integer.MIN_VALUE, Integer.MAX_VALUE}) {
            Check.noIndex(x, "count(" + what + ")", () -> x.count(what));
        }
    }
}
