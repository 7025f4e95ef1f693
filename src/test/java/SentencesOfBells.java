/** A test for each sentence of the promises 1 to 6. */
final class SentencesOfBells {
    private SentencesOfBells() {
    }

    static void check() {
        newTower();
        weightFromNowOn();
        weightBefore();
        weighRefusesBells();
        weighRefusesWeights();
        newLeatherInThePlace();
        fitOfNone();
        thicknessThatWasThere();
        fitRefusesPlaces();
        fitRefusesThicknesses();
        fitRefusesAnEmptyStore();
        storeGetsMore();
        storeHoldsNinetyNine();
        storeRefuses();
        lastsTillThrough();
        lastsWithTheWeightNow();
        lastsWithoutALeather();
        lastsRefuses();
        bellTells();
        bellRefuses();
    }

    private static void newTower() {
        Doc.says("Promise 1", "Creates a tower without ringers and tolls, in the minute 0.");
        MuffledTolls x = new MuffledTolls();
        long[] due = {0, 0, 0, 0, 0, 0, 0, 20, 0};
        for (int what = 0; what < 9; what++) {
            Check.same("count(" + what + ")", x.count(what), due[what]);
        }
        Check.noIndex(x, "no ringer", () -> x.told(0, 0));
        Check.noIndex(x, "no toll", () -> x.about(0, 0));
        Check.noIndex(x, "nobody to send", () -> x.send(0, 0));
        Check.noIndex(x, "nothing to stop", () -> x.stop(0));
        Check.noIndex(x, "nothing that ends", () -> x.ends(0));
        Check.noIndex(x, "nothing heard", () -> x.heard(0, 0));
        Check.same("no strokes", x.pass(240), 0);
    }

    private static void weightFromNowOn() {
        Doc.says("Promise 2", "`bell`: a bell", "`weight`: its weight from now on");
        for (int weight : new int[] {1, 2, 8, 9}) {
            MuffledTolls x = Towers.strong(1);
            x.toll(1, 0, 2, 1);
            x.pass(1);
            Check.same("the stroke before", x.told(0, 1), 1);
            x.weigh(1, weight);
            x.pass(2);
            Check.same("the next one", x.told(0, 1), 1 + weight);
            x.weigh(1, 1);
            x.pass(2);
            Check.same("the third one", x.told(0, 1), 2 + weight);
            x.weigh(1, weight);
            x.pass(2);
            Check.same("the reach of a year", x.heard(0, 10 * weight), 1);
            x.weigh(1, 1);
            Check.same("it stays as it was", x.heard(0, 10 * weight), 1);
            Check.same("other bells", x.bell(0, 0) + x.bell(2, 0) + x.bell(3, 0), 3);
        }
    }

    private static void weightBefore() {
        Doc.says("Promise 2", "Returns its weight before.");
        for (int bell = 0; bell < 4; bell++) {
            MuffledTolls x = new MuffledTolls();
            Check.same("that at first", x.weigh(bell, 9), 3 + bell);
            Check.same("9", x.weigh(bell, 1), 9);
            Check.same("1", x.weigh(bell, 1), 1);
            Check.same("1 again", x.weigh(bell, 8), 1);
            Check.same("8", x.weigh(bell, 2), 8);
        }
    }

    private static void weighRefusesBells() {
        Doc.says("Promise 2", "Throws `IndexOutOfBoundsException` if bell is not 0 to 3");
        for (int bell : Check.outside(0, 3)) {
            Alike.noIndex("weigh(" + bell + ", 9)", x -> x.weigh(bell, 9));
        }
    }

    private static void weighRefusesWeights() {
        Doc.says("Promise 2", "Throws `IllegalArgumentException` if weight is not 1 to 9");
        for (int weight : Check.outside(1, 9)) {
            for (int bell = 0; bell < 4; bell++) {
                int which = bell;
                Alike.noArgument("weigh(" + bell + ", " + weight + ")", x -> x.weigh(which, weight));
            }
        }
    }

    private static void newLeatherInThePlace() {
        Doc.says("Promise 3",
            "Fits a new leather out of the store to a side of a bell, in the place of one that is there.",
            "`bell`: the bell", "`side`: the side");
        MuffledTolls x = new MuffledTolls();
        x.fit(2, 1, 1);
        Check.same("out of the store", x.count(7), 19);
        Check.same("on bells", x.count(8), 1);
        x.fit(2, 1, 9);
        Check.same("in the place: out of the store", x.count(7), 18);
        Check.same("in the place: on bells", x.count(8), 1);
        Check.same("in the place: how thick", x.bell(2, 2), 9);
        x.fit(2, 1, 9);
        Check.same("as thick as before: out of the store", x.count(7), 17);
        Check.same("the other side", x.bell(2, 1), 0);
        Check.same("other bells", x.bell(1, 2) + x.bell(3, 2), 0);
    }

    private static void fitOfNone() {
        Doc.says("Promise 3", "`thick`: how thick it is; 0 for none (then nothing comes out of the store)");
        MuffledTolls x = new MuffledTolls();
        Check.same("none in the place of none", x.fit(0, 0, 0), 0);
        Check.same("in the store", x.count(7), 20);
        x.fit(0, 0, 5);
        Check.same("none in the place of one", x.fit(0, 0, 0), 5);
        Check.same("none goes back", x.count(7), 19);
        Check.same("none is there", x.bell(0, 1), 0);
        Check.same("on bells", x.count(8), 0);
        MuffledTolls y = Towers.stocked(0);
        Check.same("from an empty store", y.fit(0, 0, 0), 1);
        Check.same("which stays empty", y.count(7), 0);
    }

    private static void thicknessThatWasThere() {
        Doc.says("Promise 3", "Returns how thick the leather was that was there, 0 without one.");
        for (int side = 0; side < 2; side++) {
            MuffledTolls x = Towers.strong(1);
            Check.same("without one", x.fit(1, side, 9), 0);
            Check.same("9", x.fit(1, side, 1), 9);
            Check.same("1", x.fit(1, side, 0), 1);
            Check.same("without one again", x.fit(1, side, 2), 0);
            x.toll(1, 2, 0, 1);
            x.weigh(1, 9);
            x.pass(3);
            Check.same("a worn one is as thick", x.fit(1, side, 1), 2);
            x.pass(6);
            Check.same("one that is through", x.fit(1, side, 1), 0);
        }
    }

    private static void fitRefusesPlaces() {
        Doc.says("Promise 3", "Throws `IndexOutOfBoundsException` if bell is not 0 to 3, or side is not 0 to 1");
        for (int bell : Check.outside(0, 3)) {
            Alike.noIndex("fit(" + bell + ", 0, 0)", x -> x.fit(bell, 0, 0));
            Alike.noIndex("fit(" + bell + ", 1, 9)", x -> x.fit(bell, 1, 9));
        }
        for (int side : Check.outside(0, 1)) {
            Alike.noIndex("fit(0, " + side + ", 0)", x -> x.fit(0, side, 0));
            Alike.noIndex("fit(3, " + side + ", 9)", x -> x.fit(3, side, 9));
        }
        Alike.noIndex("fit(4, -1, 1)", x -> x.fit(4, -1, 1));
    }

    private static void fitRefusesThicknesses() {
        Doc.says("Promise 3", "Throws `IllegalArgumentException` if thick is not 0 to 9");
        for (int thick : Check.outside(0, 9)) {
            Alike.noArgument("fit(0, 0, " + thick + ")", x -> x.fit(0, 0, thick));
            Alike.noArgument("fit(3, 1, " + thick + ")", x -> x.fit(3, 1, thick));
        }
        for (int thick = 0; thick <= 9; thick++) {
            MuffledTolls x = new MuffledTolls();
            x.fit(2, 0, thick);
            Check.same("fit(2, 0, " + thick + ")", x.bell(2, 1), thick);
        }
    }

    private static void fitRefusesAnEmptyStore() {
        Doc.says("Promise 3", "Throws `IllegalStateException` if thick is not 0, and there is none in the store");
        for (int thick = 1; thick <= 9; thick++) {
            int leather = thick;
            Alike.noStateBy(() -> Towers.stocked(0), "fit(0, 0, " + thick + ")", x -> x.fit(0, 0, leather));
            Alike.noStateBy(Towers::full, "fit(3, 1, " + thick + ")", x -> x.fit(3, 1, leather));
        }
        MuffledTolls y = Towers.stocked(1);
        y.fit(1, 1, 9);
        Check.same("the last one", y.bell(1, 2), 9);
        Check.same("the store then", y.count(7), 0);
        Check.noState(y, "behind the last one", () -> y.fit(1, 1, 9));
        Check.same("none, from an empty store", y.fit(1, 1, 0), 9);
        y.store(1);
        Check.same("when there is one again", y.fit(1, 1, 9), 0);
    }

    private static void storeGetsMore() {
        Doc.says("Promise 4", "Brings leathers into the store.", "`leathers`: how many");
        for (int leathers : new int[] {1, 2, 49, 50}) {
            MuffledTolls x = new MuffledTolls();
            Check.same("store(" + leathers + ")", x.store(leathers), 20 + leathers);
            Check.same("count(7)", x.count(7), 20 + leathers);
            MuffledTolls y = Towers.stocked(0);
            Check.same("store(" + leathers + ") of an empty one", y.store(leathers), leathers);
        }
    }

    private static void storeHoldsNinetyNine() {
        Doc.says("Promise 4", "Returns how many there are then, at most 99.");
        Check.same("48 and 50", Towers.stocked(48).store(50), 98);
        Check.same("49 and 50", Towers.stocked(49).store(50), 99);
        Check.same("50 and 50", Towers.stocked(50).store(50), 99);
        Check.same("97 and 1", Towers.stocked(97).store(1), 98);
        Check.same("98 and 1", Towers.stocked(98).store(1), 99);
        Check.same("98 and 2", Towers.stocked(98).store(2), 99);
        Check.same("99 and 1", Towers.stocked(99).store(1), 99);
        Check.same("99 and 50", Towers.stocked(99).store(50), 99);
        MuffledTolls x = Towers.stocked(99);
        x.store(50);
        Check.same("no more than 99 are kept", x.count(7), 99);
        for (int i = 98; i >= 0; i--) {
            x.fit(i % 4, 0, 1);
            Check.same("how many are left", x.count(7), i);
        }
        Check.noState(x, "the hundredth", () -> x.fit(0, 0, 1));
    }

    private static void storeRefuses() {
        Doc.says("Promise 4", "Throws `IllegalArgumentException` if leathers is not 1 to 50");
        for (int leathers : Check.outside(1, 50)) {
            Alike.noArgument("store(" + leathers + ")", x -> x.store(leathers));
            Alike.noArgumentBy(() -> Towers.stocked(99), "store(" + leathers + ") at 99", x -> x.store(leathers));
        }
    }

    private static void lastsTillThrough() {
        Doc.says("Promise 5",
            "`bell`: a bell", "`side`: a side", "Returns behind how many strokes on this side its leather would "
                + "be through,");
        for (int weight = 1; weight <= 9; weight++) {
            for (int thick = 1; thick <= 9; thick++) {
                MuffledTolls x = new MuffledTolls();
                x.weigh(3, weight);
                x.fit(3, 1, thick);
                int due = 0;
                while (due * weight < 10 * thick) {
                    due++;
                }
                Check.same("weight " + weight + ", " + thick + " thick", x.lasts(3, 1), due);
            }
        }
        MuffledTolls y = Towers.strong(2);
        y.weigh(0, 4);
        y.fit(0, 0, 2);
        y.toll(0, 2, 30, 1);
        for (int left = 5; left >= 1; left--) {
            Check.same("strokes left", y.lasts(0, 0), left);
            Towers.tillStroke(y);
            Check.same("one less behind one on this side", y.lasts(0, 0), left - 1);
            Towers.tillStroke(y);
            Check.same("as many behind one on the other side", y.lasts(0, 0), left - 1);
        }
        Check.same("through", y.bell(0, 1), 0);
    }

    private static void lastsWithTheWeightNow() {
        Doc.says("Promise 5", "with the weight that the bell has now;");
        MuffledTolls x = Towers.strong(1);
        x.fit(2, 0, 1);
        x.toll(2, 2, 0, 1);
        x.pass(1);
        // worn by 1 of 10
        int[] due = {9, 5, 3, 3, 2, 2, 2, 2, 1};
        for (int weight = 1; weight <= 9; weight++) {
            x.weigh(2, weight);
            Check.same("with " + weight, x.lasts(2, 0), due[weight - 1]);
        }
        x.weigh(3, 2);
        Check.same("another bell's weight is nothing to it", x.lasts(2, 0), 1);
    }

    private static void lastsWithoutALeather() {
        Doc.says("Promise 5", "0 without a leather.");
        MuffledTolls x = Towers.strong(1);
        for (int bell = 0; bell < 4; bell++) {
            x.fit(bell, 1, 9);
            Check.same("never any", x.lasts(bell, 0), 0);
            x.fit(bell, 1, 0);
            Check.same("taken away", x.lasts(bell, 1), 0);
        }
        x.fit(0, 0, 1);
        x.weigh(0, 9);
        x.toll(0, 2, 0, 1);
        x.pass(3);
        Check.same("through", x.lasts(0, 0), 0);
    }

    private static void lastsRefuses() {
        Doc.says("Promise 5", "Throws `IndexOutOfBoundsException` if bell is not 0 to 3, or side is not 0 to 1");
        for (int bell : Check.outside(0, 3)) {
            Alike.noIndex("lasts(" + bell + ", 1)", x -> x.lasts(bell, 1));
        }
        for (int side : Check.outside(0, 1)) {
            Alike.noIndex("lasts(3, " + side + ")", x -> x.lasts(3, side));
        }
        Alike.onlyAnswers(Towers::busy, "lasts(0, 0)", x -> x.lasts(0, 0));
        Alike.onlyAnswers(Towers::full, "lasts(3, 1)", x -> x.lasts(3, 1));
    }

    private static void bellTells() {
        Doc.says("Promise 6", "`bell`: a bell", "`what`: 0 its weight, 1 how thick the leather on its hand side is, "
            + "2 that on its back side, 0 without one, 3 the side whose turn it is, 4 the ringer at its rope, "
            + "-1 without one, "
            + "5 the toll with which it goes on, -1 without one, 6 the pause, 7 its tolls that are not done, 8 "
            + "its strokes in all",
            "Returns this.");
        MuffledTolls x = Towers.strong(12);
        tells(x, 3, 1, 0, 0, 0, -1, -1, 0, 0, 0);
        x.weigh(3, 9);
        x.fit(3, 0, 9);
        tells(x, 3, 9, 9, 0, 0, -1, -1, 0, 0, 0);
        x.fit(3, 1, 1);
        x.send(3, 11);
        tells(x, 3, 9, 9, 1, 0, 11, -1, 0, 0, 0);
        for (int toll = 0; toll < 20; toll++) {
            x.toll(3, 0, 0, 5);
        }
        tells(x, 3, 9, 9, 1, 0, 11, 0, 0, 20, 0);
        x.pass(1);
        tells(x, 3, 9, 9, 1, 1, 11, 0, 9, 20, 1);
        x.pass(10);
        tells(x, 3, 9, 9, 1, 0, 11, 0, 9, 20, 2);
        x.pass(10);
        tells(x, 3, 9, 9, 1, 1, 11, 1, 0, 19, 3);
        for (int toll = 1; toll < 19; toll++) {
            x.stop(toll);
        }
        tells(x, 3, 9, 9, 1, 1, 11, 19, 0, 1, 3);
        x.pass(1);
        tells(x, 3, 9, 9, 0, 0, 11, 19, 9, 1, 4);
        x.stop(19);
        tells(x, 3, 9, 9, 0, 0, -1, -1, 0, 0, 4);
        tells(x, 2, 1, 0, 0, 0, -1, -1, 0, 0, 0);
    }

    private static void tells(MuffledTolls x, int bell, long... due) {
        for (int what = 0; what < 9; what++) {
            Check.same("bell(" + bell + ", " + what + ") in the minute " + x.count(0), x.bell(bell, what), due[what]);
        }
    }

    private static void bellRefuses() {
        Doc.says("Promise 6", "Throws `IndexOutOfBoundsException` if bell is not 0 to 3, or what is not 0 to 8");
        for (int bell : Check.outside(0, 3)) {
            Alike.noIndex("bell(" + bell + ", 8)", x -> x.bell(bell, 8));
        }
        for (int what : Check.outside(0, 8)) {
            Alike.noIndex("bell(3, " + what + ")", x -> x.bell(3, what));
        }
        for (int what = 0; what <= 8; what++) {
            int asked = what;
            Alike.onlyAnswers(Towers::full, "bell(3, " + what + ")", x -> x.bell(3, asked));
        }
    }
}
