/** Towers in which something goes on, for the tests; none of these takes more than 120 of an object's 512 calls. */
final class Towers {
    private Towers() {
    }

    static MuffledTolls withRingers(int... strengths) {
        MuffledTolls x = new MuffledTolls();
        for (int strength : strengths) {
            x.ringer(strength);
        }
        return x;
    }

    /** So many ringers of the strength 9, and all bells of the weight 1. */
    static MuffledTolls strong(int ringers) {
        MuffledTolls x = new MuffledTolls();
        for (int i = 0; i < ringers; i++) {
            x.ringer(9);
        }
        for (int bell = 0; bell < 4; bell++) {
            x.weigh(bell, 1);
        }
        return x;
    }

    /** Much is going on, and there is room for more: 4 ringers, 6 tolls, 17 leathers in the store. */
    static MuffledTolls busy() {
        MuffledTolls x = withRingers(3, 2, 1, 4);
        x.fit(0, 0, 2);
        x.fit(0, 1, 1);
        x.fit(2, 1, 9);
        x.toll(0, 2, 40, 1);
        x.toll(1, 1, 12, 3);
        x.toll(2, 0, 7, 2);
        x.toll(0, 0, 0, 5);
        x.toll(2, 1, 100, 1);
        x.toll(3, 0, 3, 1);
        x.send(1, 3);
        x.pass(11);
        return x;
    }

    /** As many ringers and tolls as there can be, a leather on each side, and none in the store. */
    static MuffledTolls full() {
        MuffledTolls x = new MuffledTolls();
        for (int ringer = 0; ringer < 12; ringer++) {
            x.ringer(1 + ringer * 5 % 9);
        }
        for (int leather = 0; leather < 20; leather++) {
            x.fit(leather % 4, leather / 4 % 2, 9 - leather % 3);
        }
        for (int toll = 0; toll < 20; toll++) {
            x.toll(toll * 7 % 4, toll % 3, 2 * toll, 1 + toll % 5);
        }
        x.send(2, 11);
        x.pass(37);
        x.stop(9);
        return x;
    }

    /** A tower with so many leathers in the store, 0 to 99. */
    static MuffledTolls stocked(int leathers) {
        MuffledTolls x = new MuffledTolls();
        for (int i = 20; i > leathers; i--) {
            x.fit(0, 0, 1);
        }
        for (int i = 20; i < leathers; i++) {
            x.store(1);
        }
        return x;
    }

    /** The same tower, so many minutes later. */
    static MuffledTolls later(MuffledTolls x, int minutes) {
        for (int left = minutes; left > 0; left -= 240) {
            x.pass(Math.min(240, left));
        }
        return x;
    }

    /** Lets minutes go by till there is a stroke; answers how many there were without one. */
    static int tillStroke(MuffledTolls x) {
        for (int minutes = 0; minutes < 1000; minutes++) {
            if (x.pass(1) > 0) {
                return minutes;
            }
        }
        return -1;
    }
}
