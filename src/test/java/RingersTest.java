/** Promises 7 to 9: ringer, send, told; and how ringers pull, are relieved and rest. */
public final class RingersTest {

    public static void main(String[] args) {
        ringersAreNumbered();
        ringerRefuses();
        sendAnswersWhoWasThere();
        sendNeedsNoStrength();
        sentStaysWithoutTolls();
        sendRefuses();
        toldTellsAll();
        toldRefuses();
        leastTiredComes();
        tiredOnesAreRelieved();
        exactStrengthPulls();
        nobodyMeansNoStroke();
        relievedOneMayComeElsewhere();
        freedOneMayComeElsewhere();
        restIsTwoAMinute();
        Check.finish();
    }

    private static void ringersAreNumbered() {
        MuffledTolls x = new MuffledTolls();
        for (int ringer = 0; ringer < 12; ringer++) {
            int strength = ringer % 9 + 1;
            Check.same("ringer(" + strength + ")", x.ringer(strength), ringer);
            Check.same("how many", x.count(1), ringer + 1);
            long[] facts = {strength, 0, -1, 0, 0};
            for (int what = 0; what < 5; what++) {
                Check.same("told(" + ringer + ", " + what + ")", x.told(ringer, what), facts[what]);
            }
        }
        Check.noState(x, "a ringer beyond 12", () -> x.ringer(5));
        Check.noArgument(x, "ringer(0) beyond 12", () -> x.ringer(0));
        Check.noArgument(x, "ringer(10) beyond 12", () -> x.ringer(10));
    }

    private static void ringerRefuses() {
        MuffledTolls x = new MuffledTolls();
        for (int strength : new int[] {0, 10, -1, Integer.MIN_VALUE, Integer.MAX_VALUE}) {
            Check.noArgument(x, "ringer(" + strength + ")", () -> x.ringer(strength));
        }
        Check.same("ringer(9)", x.ringer(9), 0);
        Check.same("ringer(1)", x.ringer(1), 1);
    }

    private static void sendAnswersWhoWasThere() {
        MuffledTolls x = new MuffledTolls();
        x.ringer(3);
        x.ringer(4);
        Check.same("send(2, 1)", x.send(2, 1), -1);
        Check.same("its place", x.told(1, 2), 2);
        Check.same("send(2, 0)", x.send(2, 0), 1);
        Check.same("the new one's place", x.told(0, 2), 2);
        Check.same("the old one rests", x.told(1, 2), -1);
        Check.same("at the rope", x.bell(2, 4), 0);
        Check.same("those at ropes", x.count(2), 1);
        Check.same("send(3, 1)", x.send(3, 1), -1);
        Check.same("those at ropes then", x.count(2), 2);
        Check.same("sent is no relief", x.told(0, 4) + x.told(1, 4), 0);
    }

    private static void sendNeedsNoStrength() {
        MuffledTolls x = new MuffledTolls();
        x.ringer(1);
        x.ringer(9);
        x.weigh(0, 9);
        x.toll(0, 0, 10, 1);
        x.send(0, 0);
        x.pass(1);
        Check.same("tired by 9", x.told(0, 1), 9);
        Check.same("the next one", x.send(0, 1), 0);
        Check.same("a tired one again", x.send(0, 0), 1);
        Check.same("at the rope", x.bell(0, 4), 0);
        x.pass(2);
        Check.same("relieved", x.bell(0, 4), 1);
        Check.same("came for relief", x.told(1, 4), 1);
        Check.same("rested once", x.told(0, 1), 7);
    }

    private static void sentStaysWithoutTolls() {
        MuffledTolls x = new MuffledTolls();
        x.ringer(2);
        x.send(1, 0);
        x.pass(50);
        Check.same("still there", x.bell(1, 4), 0);
        Check.same("still there, as told", x.told(0, 2), 1);
        x.toll(1, 0, 0, 1);
        x.pass(1);
        Check.same("pulled", x.told(0, 3), 1);
        Check.same("without relief", x.told(0, 4), 0);
        x.send(0, x.ringer(5));
        x.toll(0, 0, 1, 1);
        x.stop(1);
        Check.same("rests when the only toll is broken off", x.told(1, 2), -1);
    }

    private static void sendRefuses() {
        MuffledTolls x = new MuffledTolls();
        Check.noIndex(x, "send(0, 0) without ringers", () -> x.send(0, 0));
        x.ringer(5);
        x.ringer(6);
        x.send(1, 0);
        for (int bell : new int[] {-1, 4, Integer.MIN_VALUE, Integer.MAX_VALUE}) {
            Check.noIndex(x, "send(" + bell + ", 1)", () -> x.send(bell, 1));
            Check.noIndex(x, "send(" + bell + ", 0), who is at a rope", () -> x.send(bell, 0));
        }
        for (int ringer : new int[] {-1, 2, 12, Integer.MIN_VALUE, Integer.MAX_VALUE}) {
            Check.noIndex(x, "send(0, " + ringer + ")", () -> x.send(0, ringer));
        }
        Check.noState(x, "send(1, 0) to the same rope", () -> x.send(1, 0));
        Check.noState(x, "send(2, 0) to another rope", () -> x.send(2, 0));
    }

    private static void toldTellsAll() {
        MuffledTolls x = new MuffledTolls();
        x.ringer(4);
        x.ringer(7);
        x.toll(3, 0, 9, 1);
        x.pass(3);
        long[] first = {4, 12, 3, 2, 1};
        long[] second = {7, 0, -1, 0, 0};
        for (int what = 0; what < 5; what++) {
            Check.same("told(0, " + what + ")", x.told(0, what), first[what]);
            Check.same("told(1, " + what + ")", x.told(1, what), second[what]);
        }
    }

    private static void toldRefuses() {
        MuffledTolls x = new MuffledTolls();
        x.ringer(4);
        for (int ringer : new int[] {-1, 1, 12, Integer.MIN_VALUE, Integer.MAX_VALUE}) {
            Check.noIndex(x, "told(" + ringer + ", 0)", () -> x.told(ringer, 0));
        }
        for (int what : new int[] {-1, 5, Integer.MIN_VALUE, Integer.MAX_VALUE}) {
            Check.noIndex(x, "told(0, " + what + ")", () -> x.told(0, what));
        }
    }

    private static void leastTiredComes() {
        MuffledTolls x = new MuffledTolls();
        x.ringer(5);
        x.ringer(5);
        x.ringer(5);
        x.weigh(0, 9);
        x.toll(0, 0, 0, 1);
        x.pass(1);
        Check.same("of several the smallest number", x.bell(0, 4), 0);
        x.stop(0);
        x.toll(0, 0, 0, 1);
        x.pass(1);
        Check.same("then one who is not tired", x.bell(0, 4), 1);
        Check.same("the first one has rested", x.told(0, 1), 7);
        x.stop(1);
        x.toll(0, 0, 0, 1);
        x.toll(1, 0, 0, 1);
        x.pass(1);
        Check.same("the third one", x.bell(0, 4), 2);
        Check.same("the less tired of the others", x.bell(1, 4), 0);
        // told(0): 7 + 4 at the rope; told(1): 9 - 2
        Check.same("tired, at the rope", x.told(0, 1), 11);
        Check.same("tired, at rest", x.told(1, 1), 7);
    }

    private static void tiredOnesAreRelieved() {
        MuffledTolls x = new MuffledTolls();
        x.ringer(1);
        x.ringer(2);
        x.toll(0, 2, 0, 1);
        x.pass(3);
        // 3 strokes of 3 are 9: a fourth one would be 12, over 10
        Check.same("three strokes", x.told(0, 3), 3);
        x.pass(2);
        Check.same("relieved", x.bell(0, 4), 1);
        Check.same("rests", x.told(0, 2), -1);
        Check.same("less tired in the same minute", x.told(0, 1), 7);
        Check.same("tired by its first stroke", x.told(1, 1), 3);
        Check.same("reliefs", x.told(0, 4) * 10 + x.told(1, 4), 11);
    }

    private static void exactStrengthPulls() {
        MuffledTolls x = new MuffledTolls();
        x.ringer(1);
        x.weigh(0, 5);
        x.toll(0, 1, 0, 1);
        x.pass(2);
        Check.same("10 of 10 is pulled", x.told(0, 1), 10);
        x.pass(20);
        Check.same("11 is not", x.told(0, 3), 2);
        Check.same("stays at the rope and does not rest", x.told(0, 1), 10);
        Check.same("at the rope", x.bell(0, 4), 0);
        Check.same("its toll rings", x.about(0, 7), 1);
        for (int strength = 1; strength <= 9; strength++) {
            MuffledTolls y = new MuffledTolls();
            y.ringer(strength);
            y.weigh(0, 1);
            y.toll(0, 0, 120, 1);
            Check.same("strokes of 1 with " + strength, y.pass(200), 10 * strength);
        }
    }

    private static void nobodyMeansNoStroke() {
        MuffledTolls x = new MuffledTolls();
        x.toll(0, 0, 0, 1);
        Check.same("without ringers", x.pass(10), 0);
        Check.same("it waits", x.about(0, 7), 0);
        x.ringer(1);
        x.send(3, 0);
        Check.same("who is at another rope does not come", x.pass(10), 0);
        x.ringer(1);
        Check.same("who rests comes", x.pass(1), 1);
        Check.same("as a relief", x.told(1, 4), 1);
    }

    private static void relievedOneMayComeElsewhere() {
        MuffledTolls x = new MuffledTolls();
        x.ringer(1);
        x.weigh(0, 6);
        x.weigh(3, 4);
        x.toll(0, 2, 0, 1);
        x.pass(1);
        x.ringer(1);
        x.toll(3, 2, 0, 1);
        // ringer 0 is tired by 6: bell 0 would make 12, bell 3 makes 10
        x.pass(1);
        Check.same("relieved by 1", x.bell(0, 4), 1);
        Check.same("0 came to bell 3 in the same minute", x.bell(3, 4), 0);
        Check.same("tired by both", x.told(0, 1), 10);
        Check.same("a second relief", x.told(0, 4), 2);
    }

    private static void freedOneMayComeElsewhere() {
        MuffledTolls x = new MuffledTolls();
        x.ringer(9);
        x.toll(1, 0, 0, 1);
        x.toll(2, 0, 0, 1);
        x.toll(0, 0, 0, 1);
        x.send(1, 0);
        Check.same("only bell 1 in the first four minutes", x.pass(4), 2);
        Check.same("bells 1 and 2 in the fifth", x.pass(1), 2);
        Check.same("the toll of 1 is done", x.about(0, 8), 4);
        Check.same("its ringer is at 2", x.told(0, 2), 2);
        Check.same("bell 0 was before", x.about(2, 4), 0);
        Check.same("tired without rest", x.told(0, 1), 3 * 4 + 5);
    }

    private static void restIsTwoAMinute() {
        MuffledTolls x = new MuffledTolls();
        x.ringer(9);
        x.toll(2, 0, 0, 1);
        x.pass(5);
        // the last stroke frees the ringer, who rests in that same minute
        Check.same("behind the last stroke", x.told(0, 1), 13);
        Check.same("at rest", x.told(0, 2), -1);
        x.pass(6);
        Check.same("6 minutes later", x.told(0, 1), 1);
        x.pass(1);
        Check.same("at least 0", x.told(0, 1), 0);
        x.pass(1);
        Check.same("still 0", x.told(0, 1), 0);
    }
}
