/** A test for each sentence of the promises 7 to 9. */
final class SentencesOfRingers {
    private SentencesOfRingers() {
    }

    static void check() {
        newRinger();
        ringerRefusesStrengths();
        ringerRefusesTheThirteenth();
        sendBringsToARope();
        sentOneNeedNotBeAbleToPull();
        sendAnswersWhoWasThere();
        sendRefusesNumbers();
        sendRefusesWhoIsAtARope();
        toldTells();
        toldTellsReliefs();
        toldRefuses();
    }

    private static void newRinger() {
        Doc.says("Promise 7", "`strength`: the strength of a new ringer", "Returns the number.");
        for (int strength = 1; strength <= 9; strength++) {
            MuffledTolls x = Towers.withRingers(5, 5);
            Check.same("ringer(" + strength + ")", x.ringer(strength), 2);
            Check.same("the strength", x.told(2, 0), strength);
            Check.same("of the one before", x.told(1, 0), 5);
        }
        Check.same("the first one", new MuffledTolls().ringer(9), 0);
        Check.same("the twelfth", Towers.strong(11).ringer(1), 11);
    }

    private static void ringerRefusesStrengths() {
        Doc.says("Promise 7", "Throws `IllegalArgumentException` if strength is not 1 to 9");
        for (int strength : Check.outside(1, 9)) {
            Alike.noArgument("ringer(" + strength + ")", x -> x.ringer(strength));
        }
    }

    private static void ringerRefusesTheThirteenth() {
        Doc.says("Promise 7", "Throws `IllegalStateException` if there are 12");
        for (int strength = 1; strength <= 9; strength++) {
            int strong = strength;
            Alike.noStateBy(Towers::full, "ringer(" + strength + ")", x -> x.ringer(strong));
            Alike.noStateBy(() -> Towers.strong(12), "ringer(" + strength + ") without tolls", x -> x.ringer(strong));
        }
        MuffledTolls y = Towers.strong(11);
        y.ringer(9);
        Check.same("12 are fine", y.count(1), 12);
        Check.noState(y, "13 are not", () -> y.ringer(9));
        Check.same("and do not come", y.count(1), 12);
    }

    private static void sendBringsToARope() {
        Doc.says("Promise 8", "Sends a ringer who rests to a rope,", "whoever was at it rests.",
            "`bell`: the bell", "`ringer`: the ringer");
        MuffledTolls x = Towers.strong(12);
        x.send(3, 11);
        Check.same("at the rope", x.bell(3, 4), 11);
        Check.same("told", x.told(11, 2), 3);
        x.send(3, 0);
        Check.same("then the other one is", x.bell(3, 4), 0);
        Check.same("whoever was at it rests", x.told(11, 2), -1);
        x.send(0, 11);
        Check.same("and may be sent again", x.bell(0, 4), 11);
        x.toll(3, 0, 9, 5);
        x.pass(1);
        Check.same("in a pause", x.send(3, 1), 0);
        Check.same("which stays", x.bell(3, 6), 9);
        Check.same("whoever was at it is not less tired yet", x.told(0, 1), 1);
        x.pass(1);
        Check.same("but by the end of the minute", x.told(0, 1), 0);
    }

    private static void sentOneNeedNotBeAbleToPull() {
        Doc.says("Promise 8", "whether this one can pull or not;");
        MuffledTolls x = Towers.withRingers(1, 9, 9);
        x.weigh(0, 9);
        x.toll(0, 2, 9, 1);
        x.send(0, 0);
        x.pass(1);
        x.send(0, 1);
        Check.same("tired by 9, sent again", x.send(0, 0), 1);
        Check.same("at the rope", x.bell(0, 4), 0);
        x.pass(1);
        Check.same("relieved, by one of two who are not tired", x.bell(0, 4), 1);
        Check.same("sent in the place of one who can pull", x.send(0, 2), 1);
        x.pass(1);
        Check.same("who stays, as this one can too", x.bell(0, 4), 2);
    }

    private static void sendAnswersWhoWasThere() {
        Doc.says("Promise 8", "Returns who was at the rope, -1 for nobody.");
        for (int bell = 0; bell < 4; bell++) {
            MuffledTolls x = Towers.strong(3);
            Check.same("nobody", x.send(bell, 2), -1);
            Check.same("2", x.send(bell, 0), 2);
            Check.same("0", x.send(bell, 1), 0);
            x.toll(bell, 0, 0, 1);
            x.pass(5);
            Check.same("nobody behind the last stroke", x.send(bell, 1), -1);
        }
    }

    private static void sendRefusesNumbers() {
        Doc.says("Promise 8", "Throws `IndexOutOfBoundsException` if bell is not 0 to 3, or there is no such ringer");
        Alike.noIndexBy(MuffledTolls::new, "send(0, 0) without ringers", x -> x.send(0, 0));
        for (int bell : Check.outside(0, 3)) {
            Alike.noIndexBy(() -> Towers.strong(1), "send(" + bell + ", 0)", x -> x.send(bell, 0));
        }
        for (int ringer : Check.outside(0, 0)) {
            Alike.noIndexBy(() -> Towers.strong(1), "send(3, " + ringer + ") of one", x -> x.send(3, ringer));
        }
        for (int ringer : Check.outside(0, 3)) {
            Alike.noIndexBy(Towers::busy, "send(3, " + ringer + ") of four", x -> x.send(3, ringer));
        }
        for (int ringer : Check.outside(0, 11)) {
            Alike.noIndexBy(Towers::full, "send(3, " + ringer + ") of twelve", x -> x.send(3, ringer));
        }
    }

    private static void sendRefusesWhoIsAtARope() {
        Doc.says("Promise 8", "Throws `IllegalStateException` if the ringer is at a rope");
        for (int bell = 0; bell < 4; bell++) {
            int rope = bell;
            Alike.noStateBy(SentencesOfRingers::sentToTwo, "send(" + bell + ", 1)", x -> x.send(rope, 1));
            Alike.noStateBy(Towers::busy, "send(" + bell + ", who came for relief)", x -> x.send(rope, x.bell(0, 4)));
        }
    }

    /** Ringer 1 is at the rope of bell 2. */
    private static MuffledTolls sentToTwo() {
        MuffledTolls x = Towers.strong(2);
        x.send(2, 1);
        return x;
    }

    private static void toldTells() {
        Doc.says("Promise 9", "`ringer`: a ringer", "`what`: 0 the strength, 1 by how much this one is tired, "
            + "2 the bell at whose rope this one is, -1 for none, 3 strokes in all,", "Returns this.");
        MuffledTolls x = Towers.withRingers(9, 8, 1);
        tells(x, 2, 1, 0, -1, 0, 0);
        x.send(0, 2);
        tells(x, 2, 1, 0, 0, 0, 0);
        x.toll(0, 0, 9, 1);
        x.pass(5);
        tells(x, 2, 1, 9, 0, 3, 0);
        tells(x, 0, 9, 0, -1, 0, 0);
        x.pass(2);
        tells(x, 2, 1, 7, -1, 3, 0);
        tells(x, 0, 9, 3, 0, 1, 1);
        tells(x, 1, 8, 0, -1, 0, 0);
        x.pass(4);
        tells(x, 2, 1, 0, -1, 3, 0);
        x.stop(0);
        x.toll(3, 0, 0, 1);
        x.send(3, 2);
        x.pass(1);
        tells(x, 2, 1, 6, 3, 4, 0);
    }

    private static void tells(MuffledTolls x, int ringer, long... due) {
        for (int what = 0; what < 5; what++) {
            String call = "told(" + ringer + ", " + what + ") in the minute " + x.count(0);
            Check.same(call, x.told(ringer, what), due[what]);
        }
    }

    private static void toldTellsReliefs() {
        Doc.says("Promise 9", "4 how often this one came for relief (also to a rope at which nobody was; not if sent)");
        MuffledTolls x = Towers.withRingers(1, 9);
        x.weigh(0, 9);
        x.send(0, 0);
        Check.same("sent", x.told(0, 4), 0);
        x.toll(0, 0, 0, 1);
        x.toll(0, 0, 0, 1);
        x.pass(1);
        Check.same("sent, and pulled", x.told(0, 4), 0);
        x.pass(2);
        Check.same("for one who could not pull", x.told(1, 4), 1);
        x.pass(3);
        Check.same("not again for the next toll", x.told(1, 4), 1);
        x.pass(4);
        Check.same("the rope is free", x.bell(0, 4), -1);
        x.toll(0, 0, 0, 1);
        x.pass(1);
        Check.same("to a rope at which nobody was", x.told(0, 4), 1);
        Check.same("the other one did not come", x.told(1, 4), 1);
        x.send(0, 1);
        Check.same("sent in the place of this one", x.told(1, 4), 1);
    }

    private static void toldRefuses() {
        Doc.says("Promise 9", "Throws `IndexOutOfBoundsException` if there is no such ringer, or what is not 0 to 4");
        Alike.noIndexBy(MuffledTolls::new, "told(0, 0) without ringers", x -> x.told(0, 0));
        for (int ringer : Check.outside(0, 3)) {
            Alike.noIndexBy(Towers::busy, "told(" + ringer + ", 0) of four", x -> x.told(ringer, 0));
        }
        for (int ringer : Check.outside(0, 11)) {
            Alike.noIndexBy(Towers::full, "told(" + ringer + ", 4) of twelve", x -> x.told(ringer, 4));
        }
        for (int what : Check.outside(0, 4)) {
            Alike.noIndexBy(Towers::full, "told(11, " + what + ")", x -> x.told(11, what));
        }
        for (int what = 0; what <= 4; what++) {
            int asked = what;
            Alike.onlyAnswers(Towers::full, "told(11, " + what + ")", x -> x.told(11, asked));
        }
    }
}
