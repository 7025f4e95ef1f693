import java.util.ArrayList;
import java.util.List;

/** The document once more, for comparison: written slowly and otherwise than the program. */
final class PlainTower {
    private static final class Leather {
        int thick;
        int worn;
    }

    private static final class Man {
        int strength;
        int tired;
        int strokes;
        int reliefs;
        PlainBell at;
    }

    private static final class PlainBell {
        int number;
        int weight;
        Leather[] leathers = new Leather[2];
        int pause;
        int strokes;
        List<Death> queue = new ArrayList<>();
    }

    private static final class Death {
        int number;
        PlainBell bell;
        int kind;
        int age;
        int pace;
        int doneIn = -1;
        boolean done;
        /** A pair for each stroke: 1 if it was loud, and its reach. */
        List<int[]> heard = new ArrayList<>();

        int tellers() {
            return (kind + 1) * 3;
        }
    }

    private int minute;
    private int store = 20;
    private final List<PlainBell> bells = new ArrayList<>();
    private final List<Man> men = new ArrayList<>();
    private final List<Death> deaths = new ArrayList<>();

    PlainTower() {
        for (int i = 0; i < 4; i++) {
            PlainBell b = new PlainBell();
            b.number = i;
            b.weight = i + 3;
            bells.add(b);
        }
    }

    private PlainTower copy() {
        PlainTower t = new PlainTower();
        t.minute = minute;
        t.store = store;
        for (int i = 0; i < 4; i++) {
            PlainBell from = bells.get(i);
            PlainBell to = t.bells.get(i);
            to.weight = from.weight;
            to.pause = from.pause;
            to.strokes = from.strokes;
            for (int s = 0; s < 2; s++) {
                if (from.leathers[s] != null) {
                    to.leathers[s] = new Leather();
                    to.leathers[s].thick = from.leathers[s].thick;
                    to.leathers[s].worn = from.leathers[s].worn;
                }
            }
        }
        for (Man from : men) {
            Man to = new Man();
            to.strength = from.strength;
            to.tired = from.tired;
            to.strokes = from.strokes;
            to.reliefs = from.reliefs;
            to.at = from.at == null ? null : t.bells.get(from.at.number);
            t.men.add(to);
        }
        for (Death from : deaths) {
            Death to = t.add(from.bell.number, from.kind, from.age, from.pace);
            to.heard.addAll(from.heard);
            if (from.done) {
                to.done = true;
                to.doneIn = from.doneIn;
                to.bell.queue.remove(to);
            }
        }
        return t;
    }

    private static void index(boolean good) {
        if (!good) {
            throw new IndexOutOfBoundsException();
        }
    }

    private static void argument(boolean good) {
        if (!good) {
            throw new IllegalArgumentException();
        }
    }

    private static void state(boolean good) {
        if (!good) {
            throw new IllegalStateException();
        }
    }

    private static boolean in(int x, int least, int most) {
        return least <= x && x <= most;
    }

    private Man manAt(PlainBell b) {
        for (Man m : men) {
            if (m.at == b) {
                return m;
            }
        }
        return null;
    }

    int weigh(int bell, int weight) {
        index(in(bell, 0, 3));
        argument(in(weight, 1, 9));
        int old = bells.get(bell).weight;
        bells.get(bell).weight = weight;
        return old;
    }

    int fit(int bell, int side, int thick) {
        index(in(bell, 0, 3) && in(side, 0, 1));
        argument(in(thick, 0, 9));
        state(thick == 0 || store > 0);
        Leather old = bells.get(bell).leathers[side];
        Leather fresh = null;
        if (thick > 0) {
            fresh = new Leather();
            fresh.thick = thick;
            store -= 1;
        }
        bells.get(bell).leathers[side] = fresh;
        return old == null ? 0 : old.thick;
    }

    int store(int leathers) {
        argument(in(leathers, 1, 50));
        store += leathers;
        if (store > 99) {
            store = 99;
        }
        return store;
    }

    int lasts(int bell, int side) {
        index(in(bell, 0, 3) && in(side, 0, 1));
        Leather l = bells.get(bell).leathers[side];
        if (l == null) {
            return 0;
        }
        int strokes = 0;
        int worn = l.worn;
        while (worn < 10 * l.thick) {
            worn += bells.get(bell).weight;
            strokes++;
        }
        return strokes;
    }

    int bell(int bell, int what) {
        index(in(bell, 0, 3) && in(what, 0, 8));
        PlainBell b = bells.get(bell);
        Man m = manAt(b);
        int[] all = {b.weight, thick(b.leathers[0]), thick(b.leathers[1]), b.strokes % 2,
            m == null ? -1 : men.indexOf(m), b.queue.isEmpty() ? -1 : b.queue.get(0).number,
            b.pause, b.queue.size(), b.strokes};
        return all[what];
    }

    private static int thick(Leather l) {
        return l == null ? 0 : l.thick;
    }

    int ringer(int strength) {
        argument(in(strength, 1, 9));
        state(men.size() < 12);
        Man m = new Man();
        m.strength = strength;
        men.add(m);
        return men.size() - 1;
    }

    int send(int bell, int ringer) {
        index(in(bell, 0, 3) && in(ringer, 0, men.size() - 1));
        Man m = men.get(ringer);
        state(m.at == null);
        Man old = manAt(bells.get(bell));
        if (old != null) {
            old.at = null;
        }
        m.at = bells.get(bell);
        return men.indexOf(old);
    }

    int told(int ringer, int what) {
        index(in(ringer, 0, men.size() - 1) && in(what, 0, 4));
        Man m = men.get(ringer);
        int[] all = {m.strength, m.tired, m.at == null ? -1 : m.at.number, m.strokes, m.reliefs};
        return all[what];
    }

    private Death add(int bell, int kind, int age, int pace) {
        Death d = new Death();
        d.number = deaths.size();
        d.bell = bells.get(bell);
        d.kind = kind;
        d.age = age;
        d.pace = pace;
        d.bell.queue.add(d);
        deaths.add(d);
        return d;
    }

    private static void argumentsOfToll(int kind, int age, int pace) {
        argument(in(kind, 0, 2) && in(age, 0, 120) && in(pace, 1, 5));
    }

    int toll(int bell, int kind, int age, int pace) {
        index(in(bell, 0, 3));
        argumentsOfToll(kind, age, pace);
        state(deaths.size() < 20);
        return add(bell, kind, age, pace).number;
    }

    private void finish(Death d) {
        boolean first = d.bell.queue.get(0) == d;
        d.done = true;
        d.doneIn = minute;
        d.bell.queue.remove(d);
        if (first) {
            d.bell.pause = 0;
        }
        Man m = manAt(d.bell);
        if (d.bell.queue.isEmpty() && m != null) {
            m.at = null;
        }
    }

    int stop(int toll) {
        index(in(toll, 0, deaths.size() - 1));
        Death d = deaths.get(toll);
        state(!d.done);
        finish(d);
        return d.tellers() + d.age - d.heard.size();
    }

    private static int years(Death d, int far) {
        int sum = 0;
        for (int i = d.tellers(); i < d.heard.size(); i++) {
            if (d.heard.get(i)[1] >= far) {
                sum++;
            }
        }
        return sum;
    }

    private static int loud(Death d) {
        int sum = 0;
        for (int[] stroke : d.heard) {
            sum += stroke[0];
        }
        return sum;
    }

    int about(int toll, int what) {
        index(in(toll, 0, deaths.size() - 1) && in(what, 0, 8));
        Death d = deaths.get(toll);
        int state = d.done ? 2 : d.heard.isEmpty() ? 0 : 1;
        int[] all = {d.bell.number, d.kind, d.age, d.pace, d.heard.size(), loud(d), years(d, 0), state, d.doneIn};
        return all[what];
    }

    int heard(int toll, int far) {
        index(in(toll, 0, deaths.size() - 1));
        argument(in(far, 0, 90));
        return years(deaths.get(toll), far);
    }

    int count(int what) {
        index(in(what, 0, 8));
        int ropes = 0;
        for (Man m : men) {
            ropes += m.at == null ? 0 : 1;
        }
        int done = 0;
        int strokes = 0;
        int loud = 0;
        for (Death d : deaths) {
            done += d.done ? 1 : 0;
            strokes += d.heard.size();
            loud += loud(d);
        }
        int leathers = 0;
        for (PlainBell b : bells) {
            leathers += (b.leathers[0] == null ? 0 : 1) + (b.leathers[1] == null ? 0 : 1);
        }
        int[] all = {minute, men.size(), ropes, deaths.size(), done, strokes, loud, store, leathers};
        return all[what];
    }

    private boolean can(Man m, PlainBell b) {
        return m.tired + b.weight <= 10 * m.strength;
    }

    private Man relief(PlainBell b) {
        List<Man> ready = new ArrayList<>();
        for (Man m : men) {
            if (m.at == null && can(m, b)) {
                ready.add(m);
            }
        }
        ready.sort((m, n) -> m.tired - n.tired);
        return ready.isEmpty() ? null : ready.get(0);
    }

    private int move(PlainBell b) {
        if (b.queue.isEmpty()) {
            return 0;
        }
        if (b.pause > 0) {
            b.pause--;
            return 0;
        }
        Man m = manAt(b);
        if (m == null || !can(m, b)) {
            Man next = relief(b);
            if (next == null) {
                return 0;
            }
            if (m != null) {
                m.at = null;
            }
            next.at = b;
            next.reliefs++;
            m = next;
        }
        m.tired += b.weight;
        m.strokes++;
        int side = b.strokes % 2;
        b.strokes++;
        Death d = b.queue.get(0);
        Leather l = b.leathers[side];
        d.heard.add(new int[] {l == null ? 1 : 0, 10 * b.weight / (1 + thick(l))});
        if (l != null) {
            l.worn += b.weight;
            if (l.worn >= 10 * l.thick) {
                b.leathers[side] = null;
            }
        }
        int n = d.heard.size();
        if (n == d.tellers() + d.age) {
            finish(d);
        } else {
            b.pause = d.pace - 1;
            if (n <= d.tellers() && n % (d.kind + 1) == 0) {
                b.pause += d.pace;
            }
        }
        return 1;
    }

    private int step() {
        int strokes = 0;
        for (PlainBell b : bells) {
            strokes += move(b);
        }
        for (Man m : men) {
            if (m.at == null) {
                m.tired = m.tired < 2 ? 0 : m.tired - 2;
            }
        }
        minute++;
        return strokes;
    }

    int pass(int minutes) {
        argument(in(minutes, 1, 240));
        int strokes = 0;
        for (int i = 0; i < minutes; i++) {
            strokes += step();
        }
        return strokes;
    }

    int ends(int toll) {
        index(in(toll, 0, deaths.size() - 1));
        return copy().till(toll);
    }

    private int till(int toll) {
        for (int i = 0; i <= 600; i++) {
            if (deaths.get(toll).done) {
                return i;
            }
            step();
        }
        return -1;
    }

    int foresee(int minutes, int what) {
        argument(in(minutes, 1, 240));
        index(what == 2 || in(what, 4, 6) || what == 8);
        PlainTower t = copy();
        t.pass(minutes);
        return t.count(what);
    }

    int choose(int kind, int age, int pace) {
        argumentsOfToll(kind, age, pace);
        int best = -1;
        int soonest = Integer.MAX_VALUE;
        for (int b = 0; b < 4; b++) {
            PlainTower t = copy();
            int minutes = t.till(t.add(b, kind, age, pace).number);
            if (minutes >= 0 && minutes < soonest) {
                best = b;
                soonest = minutes;
            }
        }
        return best;
    }

    double mean() {
        double sum = 0;
        for (Man m : men) {
            sum += m.tired;
        }
        return men.isEmpty() ? 0 : sum / men.size();
    }

    long digest() {
        long d = 1249;
        for (int what = 0; what < 9; what++) {
            d = d * 31 + count(what);
        }
        for (int b = 0; b < 4; b++) {
            for (int what = 0; what < 9; what++) {
                d = d * 31 + bell(b, what);
            }
            d = d * 31 + lasts(b, 0);
            d = d * 31 + lasts(b, 1);
        }
        for (int m = 0; m < men.size(); m++) {
            for (int what = 0; what < 5; what++) {
                d = d * 31 + told(m, what);
            }
        }
        for (int t = 0; t < deaths.size(); t++) {
            for (int what = 0; what < 9; what++) {
                d = d * 31 + about(t, what);
            }
            for (int far = 10; far < 100; far += 10) {
                d = d * 31 + heard(t, far);
            }
        }
        return d;
    }
}
