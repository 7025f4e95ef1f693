/** A test for each sentence of "Terms" (but those of how a minute goes), and of "What it is". */
final class SentencesOfTerms {
    private SentencesOfTerms() {
    }

    static void check() {
        answersAllCalls();
        quotientsAreCut();
        minutesAreFromZero();
        fourBells();
        weights();
        sidesTakeTurns();
        leathersOnEachSide();
        newLeatherIsNotWorn();
        twentyInTheStore();
        twelveRingers();
        ringersAtFirst();
        oneAtEachRope();
        pullsToTheStrength();
        pullsWithTheWeightAdded();
        twentyTolls();
        kindsAgesPaces();
        strokesOfAToll();
        groupsOfTellers();
        tollsOneAfterTheOther();
        throwingChangesNothing();
        firstNamedIsThrown();
    }

    private static void answersAllCalls() {
        Doc.says("What it is", "The tolls of a tower for those who died.",
            "An object is used for at most 512 calls after it has been made; what later calls answer is free.");
        MuffledTolls x = new MuffledTolls();
        for (int call = 1; call < 512; call++) {
            Check.same("call " + call + ": pass(240)", x.pass(240), 0);
        }
        Check.same("call 512: count(0)", x.count(0), 511 * 240);
    }

    private static void quotientsAreCut() {
        Doc.says("Terms", "All numbers are whole, and / is cut towards 0.");
        for (int weight = 1; weight <= 9; weight++) {
            for (int thick = 0; thick <= 9; thick++) {
                MuffledTolls x = strokeOfAYear(weight, thick);
                int reach = 0;
                while ((reach + 1) * (1 + thick) <= 10 * weight) {
                    reach++;
                }
                String what = "the reach of " + weight + " with " + thick;
                Check.same(what, x.heard(0, reach), 1);
                if (reach < 90) {
                    Check.same(what + ", not farther", x.heard(0, reach + 1), 0);
                }
            }
        }
    }

    /** A toll whose only stroke for a year is of this weight, on the back side with a leather so thick. */
    static MuffledTolls strokeOfAYear(int weight, int thick) {
        MuffledTolls x = Towers.strong(1);
        x.toll(0, 0, 1, 1);
        x.pass(6);
        x.weigh(0, weight);
        x.fit(0, 1, thick);
        x.pass(1);
        return x;
    }

    private static void minutesAreFromZero() {
        Doc.says("Terms", "Time is told in minutes, from 0.");
        MuffledTolls x = Towers.strong(1);
        Check.same("count(0) at first", x.count(0), 0);
        x.toll(0, 0, 0, 1);
        x.toll(1, 0, 0, 1);
        x.stop(1);
        Check.same("done in the minute 0", x.about(1, 8), 0);
        x.pass(1);
        Check.same("count(0) then", x.count(0), 1);
        x.pass(4);
        Check.same("done in the fifth minute", x.about(0, 8), 4);
    }

    private static void fourBells() {
        Doc.says("Terms", "Bells. There are 4, 0 to 3;");
        for (int bell : new int[] {0, 1, 2, 3}) {
            MuffledTolls x = Towers.strong(4);
            Check.same("weigh(" + bell + ", 2)", x.weigh(bell, 2), 1);
            Check.same("fit(" + bell + ", 0, 1)", x.fit(bell, 0, 1), 0);
            Check.same("lasts(" + bell + ", 0)", x.lasts(bell, 0), 5);
            Check.same("bell(" + bell + ", 0)", x.bell(bell, 0), 2);
            Check.same("send(" + bell + ", 3)", x.send(bell, 3), -1);
            Check.same("toll(" + bell + ", 0, 0, 1)", x.toll(bell, 0, 0, 1), 0);
            Check.same("strokes of bell " + bell, x.pass(240), 3);
        }
        for (int bell : Check.outside(0, 3)) {
            Alike.noIndex("weigh(" + bell + ", 1)", x -> x.weigh(bell, 1));
            Alike.noIndex("fit(" + bell + ", 0, 0)", x -> x.fit(bell, 0, 0));
            Alike.noIndex("lasts(" + bell + ", 0)", x -> x.lasts(bell, 0));
            Alike.noIndex("bell(" + bell + ", 0)", x -> x.bell(bell, 0));
            Alike.noIndex("send(" + bell + ", 0)", x -> x.send(bell, 0));
            Alike.noIndex("toll(" + bell + ", 0, 0, 1)", x -> x.toll(bell, 0, 0, 1));
        }
    }

    private static void weights() {
        Doc.says("Terms", "each has a weight, 1 to 9 (at first 3 more than its number),");
        MuffledTolls x = new MuffledTolls();
        for (int bell = 0; bell < 4; bell++) {
            Check.same("at first, bell " + bell, x.bell(bell, 0), 3 + bell);
        }
        for (int weight : new int[] {1, 2, 8, 9}) {
            x.weigh(3, weight);
            Check.same("bell(3, 0)", x.bell(3, 0), weight);
        }
        Check.noArgument(x, "weigh(3, 0)", () -> x.weigh(3, 0));
        Check.noArgument(x, "weigh(3, 10)", () -> x.weigh(3, 10));
    }

    private static void sidesTakeTurns() {
        Doc.says("Terms", "and sounds by turns with the hand side (0) and the back side (1) of its clapper, "
            + "with the hand side first, on and on through all its tolls.");
        MuffledTolls x = Towers.strong(2);
        x.fit(2, 0, 9);
        x.toll(2, 0, 0, 1);
        x.toll(2, 0, 2, 1);
        x.toll(2, 0, 2, 1);
        Check.same("the hand side first", x.bell(2, 3), 0);
        for (int stroke = 1; stroke <= 9; stroke++) {
            Towers.tillStroke(x);
            Check.same("the side behind stroke " + stroke, x.bell(2, 3), stroke % 2);
            Check.same("muffled on the hand side alone, stroke " + stroke, x.count(6), stroke / 2);
        }
        x.stop(2);
        Check.same("behind a toll that is broken off", x.bell(2, 3), 1);
        x.toll(2, 0, 0, 1);
        x.pass(1);
        Check.same("on from there", x.bell(2, 3), 0);
        Check.same("loud, as it was the back side", x.about(3, 5), 1);
        Check.same("each bell has its own turns", x.bell(1, 3), 0);
    }

    private static void leathersOnEachSide() {
        Doc.says("Terms", "On each side is a leather, 1 to 9 thick, or none (at first);");
        MuffledTolls x = new MuffledTolls();
        Check.same("none on bells at first", x.count(8), 0);
        for (int bell = 0; bell < 4; bell++) {
            for (int side = 0; side < 2; side++) {
                String what = "the leather of " + bell + ", " + side;
                Check.same(what + " at first", x.bell(bell, 1 + side), 0);
                int thick = side == 0 ? 1 + bell : 9 - bell;
                x.fit(bell, side, thick);
                Check.same(what, x.bell(bell, 1 + side), thick);
                Check.same("how many then", x.count(8), 2 * bell + side + 1);
            }
        }
        for (int bell = 0; bell < 4; bell++) {
            Check.same("still on the hand side", x.bell(bell, 1), 1 + bell);
            Check.same("still on the back side", x.bell(bell, 2), 9 - bell);
        }
        Check.noArgument(x, "10 thick", () -> x.fit(0, 0, 10));
        Check.noArgument(x, "-1 thick", () -> x.fit(0, 0, -1));
    }

    private static void newLeatherIsNotWorn() {
        Doc.says("Terms", "a new leather is worn by 0.");
        MuffledTolls x = Towers.strong(1);
        x.weigh(0, 5);
        x.fit(0, 0, 1);
        Check.same("at first", wear(x, 0), 10);
        x.toll(0, 2, 90, 1);
        x.pass(1);
        Check.same("worn by 5", wear(x, 0), 5);
        x.fit(0, 0, 1);
        Check.same("in the place of a worn one", wear(x, 0), 10);
        x.pass(5);
        Check.same("through", x.bell(0, 1), 0);
        x.fit(0, 0, 1);
        Check.same("behind one that was through", wear(x, 0), 10);
        x.pass(3);
        Check.same("worn by 5 again", wear(x, 0), 5);
        x.fit(0, 0, 0);
        x.fit(0, 0, 2);
        Check.same("behind one that was taken away", wear(x, 0), 20);
    }

    /** What bell 0 is still to wear of the leather on this side: its strokes with the weight 1. */
    private static int wear(MuffledTolls x, int side) {
        int weight = x.weigh(0, 1);
        int left = x.lasts(0, side);
        x.weigh(0, weight);
        return left;
    }

    private static void twentyInTheStore() {
        Doc.says("Terms", "In the store are 20 leathers, at first.");
        MuffledTolls x = new MuffledTolls();
        Check.same("count(7)", x.count(7), 20);
        for (int i = 19; i >= 0; i--) {
            x.fit(3, 0, 1);
            Check.same("how many are left", x.count(7), i);
        }
        Check.noState(x, "the 21st", () -> x.fit(3, 0, 1));
    }

    private static void twelveRingers() {
        Doc.says("Terms", "Ringers. There are at most 12, numbered from 0 in the order of their coming;");
        MuffledTolls x = new MuffledTolls();
        Check.noIndex(x, "the first one before it came", () -> x.told(0, 0));
        for (int number = 0; number < 12; number++) {
            Check.same("the number of the next one", x.ringer(9 - number % 9), number);
            Check.same("how many", x.count(1), number + 1);
            int next = number + 1;
            Check.noIndex(x, "one who did not come yet", () -> x.told(next, 0));
        }
        for (int number = 0; number < 12; number++) {
            Check.same("the strength of " + number, x.told(number, 0), 9 - number % 9);
        }
        Check.noState(x, "the 13th", () -> x.ringer(1));
    }

    private static void ringersAtFirst() {
        Doc.says("Terms", "each has a strength, 1 to 9, is tired by 0 (at first) or more, "
            + "and is at the rope of a bell, or rests (at first);");
        for (int strength : new int[] {1, 2, 8, 9}) {
            MuffledTolls x = Towers.withRingers(strength);
            Check.same("the strength", x.told(0, 0), strength);
            Check.same("tired by", x.told(0, 1), 0);
            Check.same("rests", x.told(0, 2), -1);
            Check.same("none at a rope", x.count(2), 0);
            x.send(3, 0);
            Check.same("at the rope of", x.told(0, 2), 3);
        }
        MuffledTolls y = new MuffledTolls();
        Check.noArgument(y, "the strength 0", () -> y.ringer(0));
        Check.noArgument(y, "the strength 10", () -> y.ringer(10));
    }

    private static void oneAtEachRope() {
        Doc.says("Terms", "at each rope is one at most.");
        MuffledTolls x = Towers.strong(12);
        for (int ringer = 0; ringer < 12; ringer++) {
            x.send(ringer % 4, ringer);
            Check.same("those at ropes", x.count(2), Math.min(4, ringer + 1));
        }
        for (int ringer = 0; ringer < 12; ringer++) {
            Check.same("the place of " + ringer, x.told(ringer, 2), ringer < 8 ? -1 : ringer - 8);
        }
        MuffledTolls y = Towers.withRingers(1, 9);
        y.weigh(0, 9);
        y.toll(0, 0, 9, 1);
        y.pass(3);
        Check.same("relieved by", y.bell(0, 4), 1);
        Check.same("one alone is there", y.count(2), 1);
    }

    private static void pullsToTheStrength() {
        Doc.says("Terms",
            "A ringer can pull a bell, if tired by 10 * strength or less with the weight of the bell added.");
        for (int strength = 1; strength <= 9; strength++) {
            for (int weight = 1; weight <= 9; weight++) {
                MuffledTolls x = Towers.withRingers(strength);
                x.weigh(0, weight);
                x.toll(0, 2, 120, 1);
                int due = 0;
                while ((due + 1) * weight <= 10 * strength) {
                    due++;
                }
                String what = "the strength " + strength + ", the weight " + weight;
                Check.same("strokes: " + what, x.pass(240), due);
                Check.same("tired: " + what, x.told(0, 1), due * weight);
            }
        }
    }

    private static void pullsWithTheWeightAdded() {
        Doc.says("Terms",
            "A ringer can pull a bell, if tired by 10 * strength or less with the weight of the bell added.");
        Check.same("1 and 9 are 10", strokesBehind(1, 9), 1);
        Check.same("2 and 9 are 11", strokesBehind(2, 9), 0);
        Check.same("2 and 8 are 10", strokesBehind(2, 8), 1);
        Check.same("9 and 1 are 10", strokesBehind(9, 1), 1);
        Check.same("9 and 2 are 11", strokesBehind(9, 2), 0);
    }

    /** How many strokes of the second weight a ringer of the strength 1 pulls behind one of the first. */
    private static int strokesBehind(int first, int second) {
        MuffledTolls x = Towers.withRingers(1);
        x.weigh(0, first);
        x.toll(0, 0, 9, 1);
        x.pass(1);
        x.weigh(0, second);
        return x.pass(9);
    }

    private static void twentyTolls() {
        Doc.says("Terms", "Tolls. There are at most 20 in all, numbered likewise;");
        MuffledTolls x = new MuffledTolls();
        Check.noIndex(x, "the first one before it was told", () -> x.about(0, 0));
        for (int number = 0; number < 20; number++) {
            Check.same("the number of the next one", x.toll(3 - number % 4, 0, number, 1), number);
            Check.same("how many", x.count(3), number + 1);
            int next = number + 1;
            Check.noIndex(x, "one that was not told yet", () -> x.about(next, 0));
        }
        for (int number = 0; number < 20; number++) {
            Check.same("the age of " + number, x.about(number, 2), number);
            x.stop(number);
        }
        Check.noState(x, "the 21st, when all are done", () -> x.toll(0, 0, 0, 1));
    }

    private static void kindsAgesPaces() {
        Doc.says("Terms", "each is for a bell, and has a kind (0 for a child, 1 for a woman, 2 for a man), "
            + "an age, 0 to 120, and a pace, 1 to 5.");
        for (int kind : new int[] {0, 1, 2}) {
            for (int age : new int[] {0, 1, 119, 120}) {
                for (int pace : new int[] {1, 2, 4, 5}) {
                    MuffledTolls x = new MuffledTolls();
                    x.toll(pace - 1 & 3, kind, age, pace);
                    Check.same("the bell", x.about(0, 0), pace - 1 & 3);
                    Check.same("the kind", x.about(0, 1), kind);
                    Check.same("the age", x.about(0, 2), age);
                    Check.same("the pace", x.about(0, 3), pace);
                }
            }
        }
        MuffledTolls y = new MuffledTolls();
        Check.noArgument(y, "the kind -1", () -> y.toll(0, -1, 0, 1));
        Check.noArgument(y, "the kind 3", () -> y.toll(0, 3, 0, 1));
        Check.noArgument(y, "the age -1", () -> y.toll(0, 0, -1, 1));
        Check.noArgument(y, "the age 121", () -> y.toll(0, 0, 121, 1));
        Check.noArgument(y, "the pace 0", () -> y.toll(0, 0, 0, 0));
        Check.noArgument(y, "the pace 6", () -> y.toll(0, 0, 0, 6));
    }

    private static void strokesOfAToll() {
        Doc.says("Terms",
            "Its strokes: tellers, three times as many as kind + 1,", "then one for each year of the age.");
        int[] tellers = {3, 6, 9};
        for (int kind = 0; kind < 3; kind++) {
            for (int age : new int[] {0, 1, 119, 120}) {
                MuffledTolls x = Towers.strong(2);
                x.toll(1, kind, age, 1);
                String what = "kind " + kind + ", age " + age;
                for (int stroke = 1; stroke <= tellers[kind] + age; stroke++) {
                    Check.isTrue(what + ": stroke " + stroke, Towers.tillStroke(x) >= 0);
                    Check.same(what + ": for years", x.about(0, 6), Math.max(0, stroke - tellers[kind]));
                    Check.same(what + ": done", x.about(0, 7), stroke == tellers[kind] + age ? 2 : 1);
                }
                Check.same(what + ": no more", x.pass(240), 0);
            }
        }
    }

    private static void groupsOfTellers() {
        Doc.says("Terms", "in three groups of kind + 1;");
        // the minutes of all strokes with the pace 5 and the age 2: 5 after each, 10 after each group
        int[][] due = {{0, 10, 20, 30, 35},
            {0, 5, 15, 20, 30, 35, 45, 50},
            {0, 5, 10, 20, 25, 30, 40, 45, 50, 60, 65}};
        for (int kind = 0; kind < 3; kind++) {
            MuffledTolls x = Towers.strong(1);
            x.toll(3, kind, 2, 5);
            for (int stroke = 0; stroke < due[kind].length; stroke++) {
                Towers.tillStroke(x);
                Check.same("kind " + kind + ": the minute of stroke " + stroke, x.count(0) - 1, due[kind][stroke]);
            }
            Check.same("kind " + kind + ": done behind them", x.about(0, 7), 2);
        }
    }

    private static void tollsOneAfterTheOther() {
        Doc.says("Terms", "Each bell rings its tolls one after the other, as they were told; "
            + "a toll waits, rings (from its first stroke on), or is done, for good.");
        MuffledTolls x = new MuffledTolls();
        x.toll(1, 0, 0, 2);
        x.toll(0, 0, 0, 1);
        x.toll(1, 0, 1, 1);
        x.pass(3);
        Check.same("without a stroke the first one waits", x.about(0, 7), 0);
        x.ringer(9);
        x.ringer(9);
        x.pass(1);
        Check.same("from its first stroke on it rings", x.about(0, 7), 1);
        Check.same("that of another bell too", x.about(1, 7), 1);
        Check.same("the next one waits", x.about(2, 7), 0);
        x.pass(3);
        Check.same("it rings in a pause", x.about(0, 7), 1);
        x.pass(4);
        Check.same("before the last stroke", x.about(0, 7), 1);
        x.pass(1);
        Check.same("behind the last stroke it is done", x.about(0, 7), 2);
        Check.same("the next one still waits", x.about(2, 7), 0);
        x.pass(1);
        Check.same("then it rings", x.about(2, 7), 1);
        x.pass(240);
        x.toll(1, 0, 0, 1);
        x.pass(240);
        Check.same("for good", x.about(0, 7), 2);
        Check.same("its minute stays", x.about(0, 8), 3 + 8);
        Check.same("its strokes stay", x.about(0, 4), 3);
        Check.noState(x, "to break it off", () -> x.stop(0));
    }

    private static void throwingChangesNothing() {
        Doc.says("Terms", "A method that throws an exception changes nothing.");
        Alike.noIndex("weigh(4, 9)", x -> x.weigh(4, 9));
        Alike.noArgument("weigh(0, 10)", x -> x.weigh(0, 10));
        Alike.noIndex("fit(0, 2, 9)", x -> x.fit(0, 2, 9));
        Alike.noArgument("fit(0, 0, 10)", x -> x.fit(0, 0, 10));
        Alike.noStateBy(Towers::full, "fit(0, 0, 5)", x -> x.fit(0, 0, 5));
        Alike.noArgument("store(51)", x -> x.store(51));
        Alike.noIndex("lasts(0, 2)", x -> x.lasts(0, 2));
        Alike.noIndex("bell(0, 9)", x -> x.bell(0, 9));
        Alike.noArgument("ringer(10)", x -> x.ringer(10));
        Alike.noStateBy(Towers::full, "ringer(9)", x -> x.ringer(9));
        Alike.noIndex("send(0, 12)", x -> x.send(0, 12));
        Alike.noStateBy(Towers::busy, "send of who is at a rope", x -> x.send(3, x.bell(0, 4)));
        Alike.noIndex("told(12, 0)", x -> x.told(12, 0));
        Alike.noIndex("toll(4, 0, 0, 1)", x -> x.toll(4, 0, 0, 1));
        Alike.noArgument("toll(0, 3, 0, 1)", x -> x.toll(0, 3, 0, 1));
        Alike.noStateBy(Towers::full, "toll(0, 0, 0, 1)", x -> x.toll(0, 0, 0, 1));
        Alike.noIndex("stop(20)", x -> x.stop(20));
        Alike.noStateBy(Towers::full, "stop of one that is done", x -> x.stop(9));
        Alike.noIndex("about(20, 0)", x -> x.about(20, 0));
        Alike.noIndex("heard(20, 0)", x -> x.heard(20, 0));
        Alike.noArgumentBy(Towers::busy, "heard(0, 91)", x -> x.heard(0, 91));
        Alike.noIndex("count(9)", x -> x.count(9));
        Alike.noArgument("pass(241)", x -> x.pass(241));
        Alike.noIndex("ends(20)", x -> x.ends(20));
        Alike.noArgument("foresee(241, 2)", x -> x.foresee(241, 2));
        Alike.noIndex("foresee(240, 3)", x -> x.foresee(240, 3));
        Alike.noArgument("choose(0, 121, 1)", x -> x.choose(0, 121, 1));
    }

    private static void firstNamedIsThrown() {
        Doc.says("Terms", "If several exceptions apply, the one that is named first is thrown.");
        Alike.noIndex("weigh: bell, weight", x -> x.weigh(-1, 0));
        Alike.noIndexBy(Towers::full, "fit: bell, side, thick, store", x -> x.fit(4, 2, 10));
        Alike.noIndexBy(Towers::full, "fit: bell, thick, store", x -> x.fit(-1, 0, -1));
        Alike.noIndexBy(Towers::full, "fit: side, thick, store", x -> x.fit(0, -1, 10));
        Alike.noIndexBy(Towers::full, "fit: bell, store", x -> x.fit(4, 1, 9));
        Alike.noIndexBy(Towers::full, "fit: side, store", x -> x.fit(3, 2, 9));
        Alike.noArgumentBy(Towers::full, "fit: thick, store", x -> x.fit(3, 1, 10));
        Alike.noArgumentBy(Towers::full, "fit: thick below 0, store", x -> x.fit(3, 1, -1));
        Alike.noArgumentBy(Towers::full, "ringer: strength below 1, number", x -> x.ringer(0));
        Alike.noArgumentBy(Towers::full, "ringer: strength over 9, number", x -> x.ringer(10));
        Alike.noIndexBy(Towers::busy, "send: bell, at a rope", x -> x.send(4, x.bell(0, 4)));
        Alike.noIndexBy(Towers::busy, "send: bell below 0, at a rope", x -> x.send(-1, x.bell(0, 4)));
        Alike.noIndexBy(Towers::full, "toll: bell, kind, age, pace, number", x -> x.toll(4, 3, 121, 6));
        Alike.noIndexBy(Towers::full, "toll: bell, number", x -> x.toll(-1, 0, 0, 1));
        Alike.noIndex("toll: bell, kind", x -> x.toll(4, -1, 0, 1));
        Alike.noIndex("toll: bell, age", x -> x.toll(4, 0, -1, 1));
        Alike.noIndex("toll: bell, pace", x -> x.toll(4, 0, 0, 0));
        Alike.noArgumentBy(Towers::full, "toll: kind, number", x -> x.toll(0, 3, 0, 1));
        Alike.noArgumentBy(Towers::full, "toll: age, number", x -> x.toll(0, 0, 121, 1));
        Alike.noArgumentBy(Towers::full, "toll: pace, number", x -> x.toll(0, 0, 0, 6));
        Alike.noIndex("heard: toll, far", x -> x.heard(20, 91));
        Alike.noIndex("heard: toll below 0, far below 0", x -> x.heard(-1, -1));
        Alike.noArgument("foresee: minutes, what", x -> x.foresee(0, 0));
        Alike.noArgument("foresee: minutes over 240, what", x -> x.foresee(241, 9));
    }
}
