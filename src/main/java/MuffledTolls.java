/** The tolls of a tower for those who died. */
public final class MuffledTolls {

    private static final int BELLS = 4;
    private static final int SIDES = 2;
    private static final int MOST_RINGERS = 12;
    private static final int MOST_TOLLS = 20;
    private static final int FIRST_STORE = 20;
    private static final int MOST_STORE = 99;
    private static final int FARTHEST = 90;
    private static final int MOST_PASSED = 240;
    private static final int MOST_LOOKED_AHEAD = 600;
    private static final int COUNT_FACTS = 9;
    private static final int BELL_FACTS = 9;
    private static final int RINGER_FACTS = 5;
    private static final int TOLL_FACTS = 9;
    private static final int NOBODY = -1;
    private static final int NONE = -1;

    private final Tower tower;

    /** Where the coming minutes are tried out; made once, since every look ahead would need a new one. */
    private final Tower ahead;

    public MuffledTolls() {
        tower = new Tower(true);
        ahead = new Tower(false);
    }

    // ---- bells and leathers

    public int weigh(int bell, int weight) throws IndexOutOfBoundsException, IllegalArgumentException {
        needBell(bell);
        needBetween(weight, 1, 9);
        int before = tower.bells[bell].weight;
        tower.bells[bell].weight = weight;
        return before;
    }

    public int fit(int bell, int side, int thick)
            throws IndexOutOfBoundsException, IllegalArgumentException, IllegalStateException {
        needBell(bell);
        needIndex(side, SIDES);
        needBetween(thick, 0, 9);
        if (thick != 0 && tower.store == 0) {
            throw new IllegalStateException("no leather in the store");
        }
        Leather leather = tower.bells[bell].leather(side);
        int before = leather.thick;
        leather.renew(thick);
        if (thick != 0) {
            tower.store--;
        }
        return before;
    }

    public int store(int leathers) throws IllegalArgumentException {
        needBetween(leathers, 1, 50);
        tower.store = Math.min(MOST_STORE, tower.store + leathers);
        return tower.store;
    }

    public int lasts(int bell, int side) throws IndexOutOfBoundsException {
        needBell(bell);
        needIndex(side, SIDES);
        return tower.bells[bell].strokesLeft(side);
    }

    public int bell(int bell, int what) throws IndexOutOfBoundsException {
        needBell(bell);
        needIndex(what, BELL_FACTS);
        return tower.ofBell(bell, what);
    }

    // ---- ringers

    public int ringer(int strength) throws IllegalArgumentException, IllegalStateException {
        needBetween(strength, 1, 9);
        if (tower.ringerCount >= MOST_RINGERS) {
            throw new IllegalStateException("no room for another ringer");
        }
        return tower.addRinger(strength);
    }

    public int send(int bell, int ringer) throws IndexOutOfBoundsException, IllegalStateException {
        needBell(bell);
        needIndex(ringer, tower.ringerCount);
        if (!tower.ringers[ringer].rests()) {
            throw new IllegalStateException("the ringer is at a rope");
        }
        int before = tower.bells[bell].rope;
        tower.bringToRope(bell, ringer);
        return before;
    }

    public int told(int ringer, int what) throws IndexOutOfBoundsException {
        needIndex(ringer, tower.ringerCount);
        needIndex(what, RINGER_FACTS);
        return tower.ringers[ringer].fact(what);
    }

    // ---- tolls

    public int toll(int bell, int kind, int age, int pace)
            throws IndexOutOfBoundsException, IllegalArgumentException, IllegalStateException {
        needBell(bell);
        needTollOfSuch(kind, age, pace);
        if (tower.tollCount >= MOST_TOLLS) {
            throw new IllegalStateException("no room for another toll");
        }
        return tower.addToll(bell, kind, age, pace);
    }

    public int stop(int toll) throws IndexOutOfBoundsException, IllegalStateException {
        needIndex(toll, tower.tollCount);
        if (tower.tolls[toll].isDone()) {
            throw new IllegalStateException("the toll is done");
        }
        tower.endToll(toll);
        return tower.tolls[toll].strokesDue() - tower.tolls[toll].strokes;
    }

    public int about(int toll, int what) throws IndexOutOfBoundsException {
        needIndex(toll, tower.tollCount);
        needIndex(what, TOLL_FACTS);
        return tower.tolls[toll].fact(what);
    }

    public int heard(int toll, int far) throws IndexOutOfBoundsException, IllegalArgumentException {
        needIndex(toll, tower.tollCount);
        needBetween(far, 0, FARTHEST);
        return tower.tolls[toll].yearsCounted(far);
    }

    public int count(int what) throws IndexOutOfBoundsException {
        needIndex(what, COUNT_FACTS);
        return tower.inAll(what);
    }

    // ---- minutes and what would be

    public int pass(int minutes) throws IllegalArgumentException {
        needBetween(minutes, 1, MOST_PASSED);
        return tower.passMinutes(minutes);
    }

    public int ends(int toll) throws IndexOutOfBoundsException {
        needIndex(toll, tower.tollCount);
        ahead.becomeLike(tower);
        return ahead.passTillDone(toll, MOST_LOOKED_AHEAD);
    }

    public int foresee(int minutes, int what) throws IllegalArgumentException, IndexOutOfBoundsException {
        needBetween(minutes, 1, MOST_PASSED);
        if (what != 2 && what != 4 && what != 5 && what != 6 && what != 8) {
            throw new IndexOutOfBoundsException("nothing that is foreseen");
        }
        ahead.becomeLike(tower);
        ahead.passMinutes(minutes);
        return ahead.inAll(what);
    }

    public int choose(int kind, int age, int pace) throws IllegalArgumentException {
        needTollOfSuch(kind, age, pace);
        int best = NONE;
        int most = MOST_LOOKED_AHEAD;
        for (int bell = 0; bell < BELLS; bell++) {
            ahead.becomeLike(tower);
            int toll = ahead.addToll(bell, kind, age, pace);
            int minutes = ahead.passTillDone(toll, most);
            if (minutes >= 0) {
                best = bell;
                // Only a bell that is sooner by a minute or more is better than this one.
                most = minutes - 1;
            }
        }
        return best;
    }

    public double mean() {
        if (tower.ringerCount == 0) {
            return 0.0;
        }
        int tired = 0;
        for (int ringer = 0; ringer < tower.ringerCount; ringer++) {
            tired += tower.ringers[ringer].tired;
        }
        return (double) tired / tower.ringerCount;
    }

    public long digest() {
        long d = 1249;
        for (int what = 0; what < COUNT_FACTS; what++) {
            d = d * 31 + tower.inAll(what);
        }
        for (int bell = 0; bell < BELLS; bell++) {
            d = withBell(d, bell);
        }
        for (int ringer = 0; ringer < tower.ringerCount; ringer++) {
            d = withRinger(d, tower.ringers[ringer]);
        }
        for (int toll = 0; toll < tower.tollCount; toll++) {
            d = withToll(d, tower.tolls[toll]);
        }
        return d;
    }

    private long withBell(long start, int bell) {
        long d = start;
        for (int what = 0; what < BELL_FACTS; what++) {
            d = d * 31 + tower.ofBell(bell, what);
        }
        for (int side = 0; side < SIDES; side++) {
            d = d * 31 + tower.bells[bell].strokesLeft(side);
        }
        return d;
    }

    private static long withRinger(long start, Ringer ringer) {
        long d = start;
        for (int what = 0; what < RINGER_FACTS; what++) {
            d = d * 31 + ringer.fact(what);
        }
        return d;
    }

    private static long withToll(long start, Toll toll) {
        long d = start;
        for (int what = 0; what < TOLL_FACTS; what++) {
            d = d * 31 + toll.fact(what);
        }
        for (int far = 10; far <= FARTHEST; far += 10) {
            d = d * 31 + toll.yearsCounted(far);
        }
        return d;
    }

    private static void needBell(int bell) {
        needIndex(bell, BELLS);
    }

    private static void needTollOfSuch(int kind, int age, int pace) {
        needBetween(kind, 0, 2);
        needBetween(age, 0, 120);
        needBetween(pace, 1, 5);
    }

    private static void needIndex(int index, int size) {
        if (index < 0 || index >= size) {
            throw new IndexOutOfBoundsException("there is none of this number");
        }
    }

    private static void needBetween(int value, int least, int most) {
        if (value < least || value > most) {
            throw new IllegalArgumentException("too small or too great");
        }
    }

    /** Everything that changes, so that a second one can try out what would be. */
    private static final class Tower {
        final Bell[] bells;
        final Ringer[] ringers;
        final Toll[] tolls;
        int minute;
        int ringerCount;
        int tollCount;
        int store;

        /** One that does not listen keeps no reaches: nothing that is foreseen asks for them. */
        Tower(boolean listens) {
            bells = new Bell[BELLS];
            for (int bell = 0; bell < BELLS; bell++) {
                bells[bell] = new Bell(bell + 3);
            }
            ringers = new Ringer[MOST_RINGERS];
            for (int ringer = 0; ringer < MOST_RINGERS; ringer++) {
                ringers[ringer] = new Ringer();
            }
            // One more than can be told, since choose() tries one out in a tower that has them all.
            tolls = new Toll[MOST_TOLLS + 1];
            for (int toll = 0; toll <= MOST_TOLLS; toll++) {
                tolls[toll] = new Toll(listens);
            }
            store = FIRST_STORE;
        }

        void becomeLike(Tower other) {
            for (int bell = 0; bell < BELLS; bell++) {
                bells[bell].becomeLike(other.bells[bell]);
            }
            for (int ringer = 0; ringer < other.ringerCount; ringer++) {
                ringers[ringer].becomeLike(other.ringers[ringer]);
            }
            for (int toll = 0; toll < other.tollCount; toll++) {
                tolls[toll].becomeLike(other.tolls[toll]);
            }
            minute = other.minute;
            ringerCount = other.ringerCount;
            tollCount = other.tollCount;
            store = other.store;
        }

        private boolean isRinger(int number) {
            return number >= 0 && number < ringerCount;
        }

        private boolean isToll(int number) {
            return number >= 0 && number < tollCount;
        }

        int addRinger(int strength) {
            int number = ringerCount;
            if (number >= ringers.length) {
                return NOBODY;
            }
            ringers[number].strength = strength;
            ringerCount++;
            return number;
        }

        int addToll(int bell, int kind, int age, int pace) {
            int number = tollCount;
            if (number >= tolls.length) {
                return NONE;
            }
            tolls[number].begin(bell, kind, age, pace);
            tollCount++;
            if (bells[bell].goesOnWith == NONE) {
                bells[bell].goesOnWith = number;
            }
            return number;
        }

        /** Ends a toll in this minute, behind its last stroke or before. */
        void endToll(int number) {
            Toll toll = tolls[number];
            toll.doneIn = minute;
            Bell bell = bells[toll.bell];
            if (bell.goesOnWith == number) {
                bell.pause = 0;
                bell.goesOnWith = firstNotDone(toll.bell);
            }
            if (bell.goesOnWith == NONE) {
                emptyRope(bell);
            }
        }

        private int firstNotDone(int bell) {
            for (int toll = 0; toll < tollCount; toll++) {
                if (tolls[toll].bell == bell && !tolls[toll].isDone()) {
                    return toll;
                }
            }
            return NONE;
        }

        void bringToRope(int bell, int ringer) {
            emptyRope(bells[bell]);
            bells[bell].rope = ringer;
            ringers[ringer].bell = bell;
        }

        private void emptyRope(Bell bell) {
            if (bell.rope >= 0 && bell.rope < ringerCount) {
                ringers[bell.rope].bell = NONE;
            }
            bell.rope = NOBODY;
        }

        int passMinutes(int minutes) {
            int strokes = 0;
            for (int i = 0; i < minutes; i++) {
                strokes += passMinute();
            }
            return strokes;
        }

        /** Answers how many minutes it takes, -1 if more than the most. */
        int passTillDone(int number, int most) {
            if (!isToll(number)) {
                return -1;
            }
            Toll toll = tolls[number];
            int minutes = 0;
            while (!toll.isDone() && minutes < most) {
                passMinute();
                minutes++;
            }
            return toll.isDone() ? minutes : -1;
        }

        private int passMinute() {
            int strokes = 0;
            for (int bell = 0; bell < BELLS; bell++) {
                int ringer = goOn(bell);
                if (isRinger(ringer)) {
                    strike(bells[bell], ringers[ringer]);
                    strokes++;
                }
            }
            for (int ringer = 0; ringer < ringerCount; ringer++) {
                ringers[ringer].restIfFree();
            }
            minute++;
            return strokes;
        }

        /** Begins a bell's part of a minute; answers who pulls in it, -1 if there is no stroke. */
        private int goOn(int number) {
            Bell bell = bells[number];
            if (!isToll(bell.goesOnWith)) {
                return NOBODY;
            }
            if (bell.pause > 0) {
                bell.pause--;
                return NOBODY;
            }
            return findPuller(number);
        }

        /** Answers who is at the rope and can pull, after a relief if there must be one; -1 for nobody. */
        private int findPuller(int number) {
            Bell bell = bells[number];
            if (isRinger(bell.rope) && ringers[bell.rope].canPull(bell.weight)) {
                return bell.rope;
            }
            int relief = leastTiredAtRest(bell.weight);
            if (isRinger(relief)) {
                bringToRope(number, relief);
                ringers[relief].reliefs++;
            }
            return relief;
        }

        private int leastTiredAtRest(int weight) {
            int best = NOBODY;
            int bestTired = 0;
            for (int number = 0; number < ringerCount; number++) {
                Ringer ringer = ringers[number];
                boolean fit = ringer.rests() && ringer.canPull(weight);
                if (fit && (best == NOBODY || ringer.tired < bestTired)) {
                    best = number;
                    bestTired = ringer.tired;
                }
            }
            return best;
        }

        /** A stroke of the toll with which the bell goes on. */
        private void strike(Bell bell, Ringer ringer) {
            int number = bell.goesOnWith;
            Toll toll = tolls[number];
            ringer.pull(bell.weight);
            Leather leather = bell.leather(bell.side);
            toll.sound(leather.thick == 0, leather.reach(bell.weight));
            leather.wear(bell.weight);
            bell.turn();
            if (toll.strokes >= toll.strokesDue()) {
                endToll(number);
            } else {
                bell.pause = toll.pauseNow();
            }
        }

        int inAll(int what) {
            switch (what) {
                case 0: return minute;
                case 1: return ringerCount;
                case 2: return ringersAtRopes();
                case 3: return tollCount;
                case 4: return tollsDone();
                case 5: return strokesInAll();
                case 6: return loudInAll();
                case 7: return store;
                default: return leathersOnBells();
            }
        }

        private int ringersAtRopes() {
            int sum = 0;
            for (int ringer = 0; ringer < ringerCount; ringer++) {
                sum += ringers[ringer].rests() ? 0 : 1;
            }
            return sum;
        }

        private int tollsDone() {
            int sum = 0;
            for (int toll = 0; toll < tollCount; toll++) {
                sum += tolls[toll].isDone() ? 1 : 0;
            }
            return sum;
        }

        private int strokesInAll() {
            int sum = 0;
            for (int bell = 0; bell < BELLS; bell++) {
                sum += bells[bell].strokes;
            }
            return sum;
        }

        private int loudInAll() {
            int sum = 0;
            for (int toll = 0; toll < tollCount; toll++) {
                sum += tolls[toll].loud;
            }
            return sum;
        }

        private int leathersOnBells() {
            int sum = 0;
            for (int bell = 0; bell < BELLS; bell++) {
                for (int side = 0; side < SIDES; side++) {
                    sum += bells[bell].leather(side).thick > 0 ? 1 : 0;
                }
            }
            return sum;
        }

        int ofBell(int number, int what) {
            Bell bell = bells[number];
            switch (what) {
                case 0: return bell.weight;
                case 1: return bell.hand.thick;
                case 2: return bell.back.thick;
                case 3: return bell.side;
                case 4: return bell.rope;
                case 5: return bell.goesOnWith;
                case 6: return bell.pause;
                case 7: return tollsNotDone(number);
                default: return bell.strokes;
            }
        }

        private int tollsNotDone(int bell) {
            int sum = 0;
            for (int toll = 0; toll < tollCount; toll++) {
                if (tolls[toll].bell == bell && !tolls[toll].isDone()) {
                    sum++;
                }
            }
            return sum;
        }
    }

    /** A bell; who is at its rope and which toll it rings are told by their numbers. */
    private static final class Bell {
        final Leather hand = new Leather();
        final Leather back = new Leather();
        int weight;
        int side;
        int rope = NOBODY;
        int goesOnWith = NONE;
        int pause;
        int strokes;

        Bell(int weight) {
            this.weight = weight;
        }

        void becomeLike(Bell other) {
            hand.becomeLike(other.hand);
            back.becomeLike(other.back);
            weight = other.weight;
            side = other.side;
            rope = other.rope;
            goesOnWith = other.goesOnWith;
            pause = other.pause;
            strokes = other.strokes;
        }

        Leather leather(int whichSide) {
            return whichSide == 0 ? hand : back;
        }

        int strokesLeft(int whichSide) {
            return leather(whichSide).strokesLeft(weight);
        }

        void turn() {
            side = 1 - side;
            strokes++;
        }
    }

    /** The place for a leather on a side of a clapper; without one it is 0 thick. */
    private static final class Leather {
        int thick;
        int worn;

        void becomeLike(Leather other) {
            thick = other.thick;
            worn = other.worn;
        }

        void renew(int newThick) {
            thick = newThick;
            worn = 0;
        }

        int reach(int weight) {
            return thick > 0 ? 10 * weight / (1 + thick) : 10 * weight;
        }

        void wear(int weight) {
            if (thick == 0) {
                return;
            }
            worn += weight;
            if (worn >= 10 * thick) {
                renew(0);
            }
        }

        int strokesLeft(int weight) {
            if (thick == 0 || weight <= 0) {
                return 0;
            }
            return (10 * thick - worn + weight - 1) / weight;
        }
    }

    /** A ringer, at the rope of a bell or, with none, at rest. */
    private static final class Ringer {
        int strength;
        int tired;
        int bell = NONE;
        int strokes;
        int reliefs;

        void becomeLike(Ringer other) {
            strength = other.strength;
            tired = other.tired;
            bell = other.bell;
            strokes = other.strokes;
            reliefs = other.reliefs;
        }

        boolean rests() {
            return bell == NONE;
        }

        boolean canPull(int weight) {
            return tired + weight <= 10 * strength;
        }

        void pull(int weight) {
            tired += weight;
            strokes++;
        }

        void restIfFree() {
            if (rests()) {
                tired = Math.max(0, tired - 2);
            }
        }

        int fact(int what) {
            switch (what) {
                case 0: return strength;
                case 1: return tired;
                case 2: return bell;
                case 3: return strokes;
                default: return reliefs;
            }
        }
    }

    /** A toll, from when it is told. */
    private static final class Toll {
        /** For each reach the strokes for years that had it; empty if nobody will ask. */
        final int[] yearsByReach;
        int bell;
        int kind;
        int age;
        int pace;
        int strokes;
        int loud;
        int doneIn = -1;

        Toll(boolean listens) {
            yearsByReach = new int[listens ? FARTHEST + 1 : 0];
        }

        /** The reaches stay behind: see Tower. */
        void becomeLike(Toll other) {
            bell = other.bell;
            kind = other.kind;
            age = other.age;
            pace = other.pace;
            strokes = other.strokes;
            loud = other.loud;
            doneIn = other.doneIn;
        }

        /** Sets all, since choose() begins one again and again in the same place. */
        void begin(int itsBell, int itsKind, int itsAge, int itsPace) {
            bell = itsBell;
            kind = itsKind;
            age = itsAge;
            pace = itsPace;
            strokes = 0;
            loud = 0;
            doneIn = -1;
        }

        boolean isDone() {
            return doneIn >= 0;
        }

        private int tellers() {
            return 3 * (kind + 1);
        }

        int strokesDue() {
            return tellers() + age;
        }

        private int years() {
            return Math.max(0, strokes - tellers());
        }

        void sound(boolean isLoud, int reach) {
            strokes++;
            if (isLoud) {
                loud++;
            }
            if (strokes > tellers() && reach >= 0 && reach < yearsByReach.length) {
                yearsByReach[reach]++;
            }
        }

        /** The pause behind a stroke that is not the last. */
        int pauseNow() {
            int group = kind + 1;
            boolean groupEnds = strokes == group || strokes == 2 * group || strokes == 3 * group;
            return groupEnds ? pace - 1 + pace : pace - 1;
        }

        int yearsCounted(int far) {
            int sum = 0;
            for (int reach = Math.max(0, far); reach < yearsByReach.length; reach++) {
                sum += yearsByReach[reach];
            }
            return sum;
        }

        private int state() {
            if (isDone()) {
                return 2;
            }
            return strokes > 0 ? 1 : 0;
        }

        int fact(int what) {
            switch (what) {
                case 0: return bell;
                case 1: return kind;
                case 2: return age;
                case 3: return pace;
                case 4: return strokes;
                case 5: return loud;
                case 6: return years();
                case 7: return state();
                default: return doneIn;
            }
        }
    }
}
