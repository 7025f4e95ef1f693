/** A test for each sentence of "Terms" that tells the steps of a minute. */
final class SentencesOfSteps {
    private SentencesOfSteps() {
    }

    static void check() {
        stepsOneByOne();
        bellsFromZeroOn();
        firstThatIsNotDone();
        pauseGetsShorter();
        pauseHoldsWhoIsThere();
        nothingWithoutTolls();
        reliefForNobody();
        reliefForWhoCannotPull();
        noReliefForWhoCanPull();
        leastTiredOfThoseWhoCan();
        relievedInThisMinute();
        smallestNumberOfSeveral();
        relievedOneRests();
        nobodyNoStroke();
        moreTiredByTheWeight();
        muffledOrLoud();
        reachOfAStroke();
        leatherGetsWorn();
        leatherIsThrough();
        strokeComesBeforeTheWear();
        pauseOfThePace();
        pauseBehindAGroup();
        lastStroke();
        ropeBehindTheLastStroke();
        restIsTwo();
        minuteIsOneGreater();
    }

    private static void stepsOneByOne() {
        Doc.says("Terms", "A minute goes like this:");
        MuffledTolls x = Towers.strong(1);
        x.weigh(3, 7);
        x.toll(3, 0, 0, 1);
        x.pass(5);
        Check.same("done in the minute before it is greater", x.about(0, 8), 4);
        Check.same("the bells are before the rest", x.told(0, 1), 3 * 7 - 2);
    }

    private static void bellsFromZeroOn() {
        Doc.says("Terms", "1. Bells, from 0 on.");
        MuffledTolls x = Towers.strong(2);
        for (int bell = 3; bell >= 0; bell--) {
            x.toll(bell, 0, 0, 1);
        }
        Check.same("strokes", x.pass(1), 2);
        for (int bell = 0; bell < 4; bell++) {
            Check.same("strokes of bell " + bell, x.bell(bell, 8), bell < 2 ? 1 : 0);
            Check.same("who is at its rope", x.bell(bell, 4), bell < 2 ? bell : -1);
        }
    }

    private static void firstThatIsNotDone() {
        Doc.says("Terms", "One with tolls that are not done goes on with the first of these.");
        MuffledTolls x = Towers.strong(1);
        Check.same("without tolls", x.bell(2, 5), -1);
        x.toll(1, 0, 0, 1);
        Check.same("with one of another bell", x.bell(2, 5), -1);
        for (int toll = 1; toll <= 4; toll++) {
            x.toll(2, 0, 0, 1);
        }
        x.stop(0);
        Check.same("the first", x.bell(2, 5), 1);
        x.stop(2);
        Check.same("still the first", x.bell(2, 5), 1);
        x.pass(5);
        Check.same("the first is done, and so is the second", x.bell(2, 5), 3);
        x.stop(3);
        x.pass(1);
        Check.same("the fourth rings", x.about(4, 4), 1);
        x.pass(4);
        Check.same("all are done", x.bell(2, 5), -1);
        x.toll(2, 0, 0, 1);
        Check.same("a new one", x.bell(2, 5), 5);
    }

    private static void pauseGetsShorter() {
        Doc.says("Terms", "If there is a pause, this is a minute shorter.");
        MuffledTolls x = Towers.strong(1);
        x.toll(0, 0, 1, 5);
        x.pass(1);
        for (int pause = 9; pause >= 1; pause--) {
            Check.same("the pause", x.bell(0, 6), pause);
            Check.same("no stroke in it", x.pass(1), 0);
        }
        Check.same("no pause", x.bell(0, 6), 0);
        Check.same("a stroke behind it", x.pass(1), 1);
        Check.same("another pause", x.bell(0, 6), 9);
    }

    private static void pauseHoldsWhoIsThere() {
        Doc.says("Terms", "If there is a pause, this is a minute shorter.");
        MuffledTolls x = Towers.withRingers(1, 1, 9);
        x.send(3, 2);
        x.weigh(0, 9);
        x.toll(0, 0, 1, 1);
        x.pass(1);
        Check.same("the pause", x.bell(0, 6), 1);
        x.pass(1);
        Check.same("no relief in a pause for who cannot pull", x.bell(0, 4), 0);
        Check.same("no rest at a rope in a pause", x.told(0, 1), 9);
        Check.same("over", x.bell(0, 6), 0);
        x.pass(1);
        Check.same("relief behind it", x.bell(0, 4), 1);
        x.pass(3);
        Check.same("no pause below 0 while nobody can pull", x.bell(0, 6), 0);
    }

    private static void nothingWithoutTolls() {
        Doc.says("Terms", "Otherwise there is a stroke, if somebody can pull "
            + "(a bell without such tolls does nothing, and whoever is at its rope stays there):");
        MuffledTolls x = Towers.withRingers(9, 9);
        x.toll(0, 0, 0, 1);
        Check.same("strokes", x.pass(5), 3);
        Check.same("tired", x.told(0, 1), 9 - 2);
        x.send(0, 0);
        x.send(3, 1);
        Check.same("a bell whose toll is done, and one that never had any", x.pass(240), 0);
        Check.same("at the rope of 0", x.bell(0, 4), 0);
        Check.same("at the rope of 3", x.bell(3, 4), 1);
        Check.same("without rest", x.told(0, 1), 7);
        Check.same("the turn stays", x.bell(0, 3), 1);
        Check.same("no pause", x.bell(0, 6), 0);
    }

    private static void reliefForNobody() {
        Doc.says("Terms", "If nobody is at the rope, or this one cannot pull the bell, there is relief:");
        MuffledTolls x = Towers.strong(2);
        x.toll(2, 0, 0, 1);
        Check.same("nobody is at the rope", x.bell(2, 4), -1);
        Check.same("a stroke", x.pass(1), 1);
        Check.same("somebody came", x.bell(2, 4), 0);
        Check.same("as a relief", x.told(0, 4), 1);
    }

    private static void reliefForWhoCannotPull() {
        Doc.says("Terms", "If nobody is at the rope, or this one cannot pull the bell, there is relief:");
        MuffledTolls x = Towers.withRingers(1, 2);
        x.weigh(0, 5);
        x.toll(0, 2, 9, 1);
        Check.same("10 is pulled", x.pass(2), 2);
        Check.same("by 0", x.bell(0, 4), 0);
        Check.same("15 is not, but there is a stroke", x.pass(1), 1);
        Check.same("by 1", x.bell(0, 4), 1);
        MuffledTolls y = Towers.withRingers(1, 1);
        y.toll(1, 0, 9, 1);
        y.pass(1);
        y.weigh(1, 7);
        y.pass(2);
        Check.same("4 and 7 are too much for 0", y.bell(1, 4), 1);
    }

    private static void noReliefForWhoCanPull() {
        Doc.says("Terms", "If nobody is at the rope, or this one cannot pull the bell, there is relief:");
        MuffledTolls x = Towers.withRingers(9, 9);
        x.weigh(0, 9);
        x.toll(0, 2, 9, 1);
        // strokes in 0, 1, 2, 4, 5, 6, 8, 9, 10, 12, 13
        x.pass(13);
        Check.same("90 is pulled, though another one is not tired", x.told(0, 3), 10);
        Check.same("who is at the rope", x.bell(0, 4), 0);
        x.pass(1);
        Check.same("who came to the eleventh stroke", x.bell(0, 4), 1);
    }

    private static void leastTiredOfThoseWhoCan() {
        Doc.says("Terms",
            "of those who rest (also of those who were relieved in this minute) and can pull it the least tired one");
        MuffledTolls x = tiredByFourAndTwentyFive();
        x.weigh(2, 6);
        x.pass(1);
        Check.same("4 and 6 are 10: the less tired one", x.bell(2, 4), 0);
        MuffledTolls y = tiredByFourAndTwentyFive();
        y.weigh(2, 7);
        y.pass(1);
        Check.same("4 and 7 are 11: the one who can", y.bell(2, 4), 1);
        MuffledTolls z = tiredByFourAndTwentyFive();
        z.send(3, 0);
        z.weigh(2, 1);
        z.pass(1);
        Check.same("who is at another rope does not come", z.bell(2, 4), 1);
        MuffledTolls w = tiredByFourAndTwentyFive();
        w.ringer(9);
        w.pass(1);
        Check.same("who is not tired, though the last one", w.bell(2, 4), 2);
    }

    /** Ringer 0, of the strength 1, is tired by 4, ringer 1, of the strength 9, by 25; bell 2 has a toll. */
    private static MuffledTolls tiredByFourAndTwentyFive() {
        MuffledTolls x = Towers.withRingers(1, 9);
        x.weigh(0, 9);
        x.weigh(1, 2);
        x.send(0, 1);
        x.send(1, 0);
        x.toll(0, 0, 0, 1);
        x.toll(1, 0, 0, 1);
        x.pass(5);
        Check.same("tired, the weak one", x.told(0, 1), 4);
        Check.same("tired, the strong one", x.told(1, 1), 25);
        x.toll(2, 0, 0, 1);
        return x;
    }

    private static void relievedInThisMinute() {
        Doc.says("Terms",
            "of those who rest (also of those who were relieved in this minute) and can pull it the least tired one");
        MuffledTolls x = Towers.withRingers(1, 2);
        x.weigh(1, 6);
        x.weigh(2, 4);
        x.toll(1, 2, 0, 1);
        x.pass(1);
        x.toll(2, 2, 0, 1);
        Check.same("two strokes", x.pass(1), 2);
        Check.same("relieved at 1", x.bell(1, 4), 1);
        Check.same("at 2 in the same minute", x.bell(2, 4), 0);
        Check.same("without rest between", x.told(0, 1), 10);
        Check.same("came twice", x.told(0, 4), 2);
    }

    private static void smallestNumberOfSeveral() {
        Doc.says("Terms", "(of several the one with the smallest number) comes to the rope,");
        MuffledTolls x = Towers.strong(12);
        for (int bell = 0; bell < 4; bell++) {
            x.toll(bell, 0, 0, 1);
        }
        x.pass(1);
        for (int bell = 0; bell < 4; bell++) {
            Check.same("who came to bell " + bell, x.bell(bell, 4), bell);
        }
        x.pass(4);
        for (int ringer = 0; ringer < 4; ringer++) {
            Check.same("tired by 3, rested by 2", x.told(ringer, 1), 1);
        }
        x.toll(2, 0, 0, 1);
        x.pass(1);
        Check.same("of those who are not tired", x.bell(2, 4), 4);
        MuffledTolls y = Towers.strong(3);
        y.weigh(3, 9);
        y.toll(3, 0, 0, 1);
        y.pass(1);
        y.send(3, 1);
        y.pass(2);
        y.send(3, 2);
        y.pass(2);
        // 9 pulled in 0, rest in 1 to 4 is 9 - 8; 9 pulled in 2, rest in 3 and 4 is 5; 9 pulled in 4 is 7
        Check.same("tired by 1, 5 and 7", 100 * y.told(0, 1) + 10 * y.told(1, 1) + y.told(2, 1), 157);
        y.pass(3);
        Check.same("tired by 0, 0 and 1", 100 * y.told(0, 1) + 10 * y.told(1, 1) + y.told(2, 1), 1);
        y.toll(3, 0, 0, 1);
        y.pass(1);
        Check.same("of two who are not tired", y.bell(3, 4), 0);
    }

    private static void relievedOneRests() {
        Doc.says("Terms", "and whoever was at it rests.");
        MuffledTolls x = Towers.withRingers(1, 9);
        x.weigh(2, 9);
        x.toll(2, 2, 0, 1);
        x.pass(1);
        Check.same("tired", x.told(0, 1), 9);
        x.pass(1);
        Check.same("rests", x.told(0, 2), -1);
        Check.same("less tired in this minute already", x.told(0, 1), 7);
        Check.same("one alone is at a rope", x.count(2), 1);
        Check.same("the other one is", x.told(1, 2), 2);
    }

    private static void nobodyNoStroke() {
        Doc.says("Terms", "If there is nobody, there is no stroke in this minute.");
        MuffledTolls x = new MuffledTolls();
        x.toll(3, 0, 0, 1);
        Check.same("without ringers", x.pass(1), 0);
        Check.same("the turn stays", x.bell(3, 3), 0);
        Check.same("its toll waits", x.about(0, 7), 0);
        Check.same("nor later", x.pass(240), 0);
        Check.same("still the same turn", x.bell(3, 3), 0);
        Check.same("no pause", x.bell(3, 6), 0);
        x.ringer(1);
        Check.same("at once with one", x.pass(1), 1);
        Check.same("a second stroke of 6 is 12", x.pass(240), 0);
        Check.same("who is at the rope stays", x.told(0, 2), 3);
        Check.same("and does not rest", x.told(0, 1), 6);
        Check.same("no strokes", x.told(0, 3), 1);
        x.weigh(3, 4);
        Check.same("the same one, with less weight", x.pass(1), 1);
        Check.same("without another relief", x.told(0, 4), 1);
    }

    private static void moreTiredByTheWeight() {
        Doc.says("Terms", "A stroke: who is at the rope is more tired by the weight.");
        for (int weight = 1; weight <= 9; weight++) {
            MuffledTolls x = Towers.strong(2);
            x.weigh(1, weight);
            x.toll(1, 0, 9, 1);
            x.pass(1);
            Check.same("by one stroke", x.told(0, 1), weight);
            x.pass(2);
            Check.same("by two", x.told(0, 1), 2 * weight);
            Check.same("the other one", x.told(1, 1), 0);
        }
    }

    private static void muffledOrLoud() {
        Doc.says("Terms", "It is muffled, if there is a leather on the side whose turn it is, otherwise loud.");
        int[][] loud = {{1, 2, 3, 4}, {0, 1, 1, 2}, {1, 1, 2, 2}, {0, 0, 0, 0}};
        for (int sides = 0; sides < 4; sides++) {
            MuffledTolls x = Towers.strong(1);
            x.fit(1, 0, sides % 2);
            x.fit(1, 1, sides / 2);
            x.fit(0, 0, 9);
            x.fit(0, 1, 9);
            x.toll(1, 0, 1, 1);
            for (int stroke = 0; stroke < 4; stroke++) {
                Towers.tillStroke(x);
                Check.same("loud of the toll, sides " + sides, x.about(0, 5), loud[sides][stroke]);
                Check.same("loud in all, sides " + sides, x.count(6), loud[sides][stroke]);
            }
        }
    }

    private static void reachOfAStroke() {
        Doc.says("Terms", "Its reach is 10 * weight / (1 + how thick this leather is, 0 without one).");
        farthest(9, 0, 90);
        farthest(1, 0, 10);
        farthest(9, 1, 45);
        farthest(9, 8, 10);
        farthest(9, 9, 9);
        farthest(1, 1, 5);
        farthest(1, 8, 1);
        farthest(1, 9, 1);
        farthest(8, 2, 26);
    }

    private static void farthest(int weight, int thick, int reach) {
        MuffledTolls x = SentencesOfTerms.strokeOfAYear(weight, thick);
        for (int far = 0; far <= 90; far++) {
            Check.same(weight + " with " + thick + ", as far as " + far, x.heard(0, far), far <= reach ? 1 : 0);
        }
    }

    private static void leatherGetsWorn() {
        Doc.says("Terms", "Then the leather is worn by the weight more;");
        for (int weight = 1; weight <= 9; weight++) {
            MuffledTolls x = Towers.strong(1);
            x.weigh(0, weight);
            x.fit(0, 0, 9);
            x.fit(0, 1, 9);
            x.toll(0, 2, 0, 1);
            x.pass(1);
            x.weigh(0, 1);
            Check.same("the hand side, by " + weight, x.lasts(0, 0), 90 - weight);
            Check.same("the other side", x.lasts(0, 1), 90);
            x.pass(1);
            Check.same("the other side, by 1", x.lasts(0, 1), 89);
        }
    }

    private static void leatherIsThrough() {
        Doc.says("Terms", "if it is worn by 10 * its thickness or more, it is through, and there is none any more.");
        wornBy(1, 8, 1, 1);
        wornBy(1, 9, 1, 0);
        wornBy(2, 9, 1, 0);
        wornBy(9, 9, 2, 2);
        wornBy(9, 9, 1, 0);
        for (int thick = 1; thick <= 9; thick++) {
            throughBehind(2 * thick, 5, thick);
        }
        throughBehind(10, 1, 1);
        throughBehind(60, 1, 6);
        throughBehind(10, 9, 9);
        throughBehind(9, 9, 8);
    }

    /** On the hand side, a leather so thick is through behind so many strokes of this weight, and not before. */
    private static void throughBehind(int strokes, int weight, int thick) {
        MuffledTolls x = Towers.strong(12);
        x.weigh(0, weight);
        x.fit(0, 0, thick);
        x.toll(0, 2, 120, 1);
        String what = thick + " thick, worn by " + weight;
        for (int stroke = 1; stroke <= 2 * strokes - 2; stroke++) {
            Towers.tillStroke(x);
        }
        Check.same(what + ": there before the last stroke", x.bell(0, 1), thick);
        Check.same(what + ": it lasts for one", x.lasts(0, 0), 1);
        Towers.tillStroke(x);
        Check.same(what + ": through", x.bell(0, 1), 0);
        Check.same(what + ": none on bells", x.count(8), 0);
        Check.same(what + ": none goes out of the store, or back", x.count(7), 19);
    }

    /** Two strokes of these weights on the back side of bell 3; what is there then of a leather so thick. */
    private static void wornBy(int first, int second, int thick, int due) {
        MuffledTolls x = Towers.strong(2);
        x.toll(3, 2, 0, 1);
        x.fit(3, 1, thick);
        x.fit(3, 0, 9);
        x.weigh(3, first);
        x.pass(3);
        x.weigh(3, second);
        x.pass(2);
        Check.same(thick + " thick, worn by " + first + " and " + second, x.bell(3, 2), due);
        Check.same("on bells", x.count(8), due == 0 ? 1 : 2);
    }

    private static void strokeComesBeforeTheWear() {
        Doc.says("Terms", "Then the leather is worn by the weight more;",
            "if it is worn by 10 * its thickness or more, it is through, and there is none any more.");
        MuffledTolls x = Towers.strong(2);
        x.weigh(0, 5);
        x.toll(0, 0, 9, 1);
        x.pass(6);
        x.fit(0, 1, 1);
        x.pass(3);
        Check.same("through by two strokes", x.bell(0, 2), 0);
        Check.same("muffled both, the other side loud", x.about(0, 5), 3 + 1);
        Check.same("the reach of all three, with the leather 25", x.heard(0, 25), 3);
        Check.same("the loud one alone", x.heard(0, 26), 1);
        x.pass(2);
        Check.same("loud then", x.heard(0, 50), 3);
    }

    private static void pauseOfThePace() {
        Doc.says("Terms", "Then there is a pause of pace - 1 minutes,");
        for (int pace = 1; pace <= 5; pace++) {
            MuffledTolls x = Towers.strong(1);
            x.toll(0, 2, 2, pace);
            x.pass(1);
            Check.same("behind the first of a group, pace " + pace, x.bell(0, 6), pace - 1);
            Check.same("how long it is, pace " + pace, Towers.tillStroke(x), pace - 1);
            for (int stroke = 3; stroke <= 10; stroke++) {
                Towers.tillStroke(x);
            }
            Check.same("a stroke for a year", x.about(0, 6), 1);
            Check.same("behind it, pace " + pace, x.bell(0, 6), pace - 1);
            Check.same("how long it is", Towers.tillStroke(x), pace - 1);
        }
    }

    private static void pauseBehindAGroup() {
        Doc.says("Terms", "and of as many as the pace more behind the last stroke of each group of tellers.");
        for (int kind = 0; kind < 3; kind++) {
            for (int pace = 1; pace <= 5; pace++) {
                MuffledTolls x = Towers.strong(1);
                x.toll(0, kind, 20, pace);
                int longer = 0;
                for (int stroke = 1; stroke <= 20; stroke++) {
                    Towers.tillStroke(x);
                    boolean ends = stroke == kind + 1 || stroke == 2 * kind + 2 || stroke == 3 * kind + 3;
                    int due = ends ? pace - 1 + pace : pace - 1;
                    Check.same("kind " + kind + ", pace " + pace + ", behind " + stroke, x.bell(0, 6), due);
                    longer += x.bell(0, 6) >= pace ? 1 : 0;
                }
                Check.same("longer ones", longer, 3);
            }
        }
    }

    private static void lastStroke() {
        Doc.says("Terms", "Behind its last stroke a toll is done in this minute, and there is no pause;");
        for (int age = 0; age <= 1; age++) {
            MuffledTolls x = Towers.strong(1);
            x.toll(2, 1, age, 5);
            x.toll(2, 0, 0, 5);
            int last = 35 + 10 * age;
            x.pass(last);
            Check.same("age " + age + ": not yet", x.about(0, 7), 1);
            Check.same("age " + age + ": in no minute", x.about(0, 8), -1);
            Check.same("age " + age + ": the last stroke", x.pass(1), 1);
            Check.same("age " + age + ": done", x.about(0, 7), 2);
            Check.same("age " + age + ": in the minute", x.about(0, 8), last);
            Check.same("age " + age + ": no pause", x.bell(2, 6), 0);
            Check.same("age " + age + ": the next toll is in the next minute", x.pass(1), 1);
            Check.same("age " + age + ": the next toll's stroke", x.about(1, 4), 1);
        }
    }

    private static void ropeBehindTheLastStroke() {
        Doc.says("Terms", "if the bell has no other toll that is not done, whoever is at its rope rests.");
        MuffledTolls x = Towers.strong(1);
        x.toll(1, 0, 0, 1);
        x.toll(1, 0, 0, 1);
        x.toll(1, 0, 0, 1);
        x.toll(2, 0, 0, 1);
        x.pass(5);
        Check.same("there are others", x.bell(1, 4), 0);
        x.stop(2);
        x.pass(4);
        Check.same("before the last stroke", x.bell(1, 4), 0);
        x.pass(1);
        Check.same("the other one is done too", x.bell(1, 4), -1);
        Check.same("a later bell has the ringer in this minute", x.told(0, 2), 2);
        Check.same("and a stroke", x.about(3, 4), 1);
        x.stop(3);
        Check.same("rests", x.told(0, 2), -1);
    }

    private static void restIsTwo() {
        Doc.says("Terms", "2. Those who rest then are less tired by 2 (at least 0).");
        for (int tired = 1; tired <= 9; tired++) {
            MuffledTolls x = Towers.withRingers(9, 1);
            x.weigh(0, tired);
            x.toll(0, 0, 0, 1);
            x.pass(1);
            Check.same("at the rope", x.told(0, 1), tired);
            x.stop(0);
            Check.same("not before the minute goes by", x.told(0, 1), tired);
            x.pass(1);
            Check.same("behind a minute of rest", x.told(0, 1), tired == 1 ? 0 : tired - 2);
            x.pass(6);
            Check.same("at least 0", x.told(0, 1), 0);
            Check.same("who never was tired", x.told(1, 1), 0);
        }
        MuffledTolls y = Towers.strong(1);
        y.toll(0, 0, 0, 1);
        y.pass(5);
        Check.same("who rests from the last stroke on, rests in that minute", y.told(0, 1), 1);
    }

    private static void minuteIsOneGreater() {
        Doc.says("Terms", "3. The minute is 1 greater.");
        MuffledTolls x = Towers.busy();
        for (int i = 1; i <= 20; i++) {
            x.pass(1);
            Check.same("the minute", x.count(0), 11 + i);
        }
        x.pass(240);
        Check.same("240 later", x.count(0), 31 + 240);
    }
}
