import java.util.ArrayDeque;
import java.util.ArrayList;
import java.util.Deque;
import java.util.List;
import java.util.regex.Matcher;
import java.util.regex.Pattern;

/**
 * The document written down a second time, in the plainest way: whole copies of everything, cells looked at one by
 * one, texts by a pattern. RandomRunsTest compares LorryArms with it.
 */
final class PlainGate {
    private static final String COMMAND = "l|v[0-2](?:0[2-9]|1[0-2])x?f?|b[0-2]|m[0-2]|t(?:0[1-9]|[1-5][0-9]|60)";
    private static final Pattern GATE = Pattern.compile("G(?:" + COMMAND + ")*");

    static final class Car {
        int length;
        int front;
        boolean lost;
        boolean follower;
        boolean let;
        boolean moved;

        Car copy() {
            Car c = new Car();
            c.length = length;
            c.front = front;
            c.lost = lost;
            c.follower = follower;
            c.let = let;
            return c;
        }

        int last() {
            return front - (length - 1);
        }

        boolean covers(int cell) {
            for (int i = 0; i < length; i++) {
                if (front - i == cell) {
                    return true;
                }
            }
            return false;
        }
    }

    static final class Row {
        List<Car> cars = new ArrayList<>();
        int height;
        int hold;
        int learned = 48;
        int check;
        boolean loopBroken;
        boolean armBroken;

        Row copy() {
            Row r = new Row();
            for (Car c : cars) {
                r.cars.add(c.copy());
            }
            r.height = height;
            r.hold = hold;
            r.learned = learned;
            r.check = check;
            r.loopBroken = loopBroken;
            r.armBroken = armBroken;
            return r;
        }

        boolean covered(int cell) {
            for (Car c : cars) {
                if (c.covers(cell)) {
                    return true;
                }
            }
            return false;
        }
    }

    static final class State {
        List<Row> rows = new ArrayList<>();
        int[] settings = {3, 12, 2};
        int ticks;
        int passed;
        int through;
        int slipped;
        int hits;
        int lostLet;
        int upTicks;

        State copy() {
            State s = new State();
            for (Row r : rows) {
                s.rows.add(r.copy());
            }
            s.settings = settings.clone();
            s.ticks = ticks;
            s.passed = passed;
            s.through = through;
            s.slipped = slipped;
            s.hits = hits;
            s.lostLet = lostLet;
            s.upTicks = upTicks;
            return s;
        }

        int vehicles() {
            int sum = 0;
            for (Row r : rows) {
                sum += r.cars.size();
            }
            return sum;
        }

        void tick() {
            ticks++;
            for (Row r : rows) {
                move(r);
                check(r);
                arm(r);
                hit(r);
                through(r);
            }
        }

        private void move(Row r) {
            for (int k = 0; k < r.cars.size(); k++) {
                Car c = r.cars.get(k);
                boolean free = k == 0 || r.cars.get(k - 1).last() - (c.front + 1) >= 1;
                boolean may = c.front != 19 || (r.height == 4 && (c.let || c.follower));
                c.moved = free && may;
                if (c.moved) {
                    c.front++;
                }
            }
            while (!r.cars.isEmpty() && r.cars.get(0).last() > 39) {
                r.cars.remove(0);
                passed++;
            }
        }

        private void check(Row r) {
            boolean going = false;
            for (Car c : r.cars) {
                if (!c.let && c.front == 19) {
                    going = true;
                    r.check++;
                    int needed = c.lost ? settings[1] : settings[0];
                    if (r.check >= needed) {
                        c.let = true;
                        going = false;
                        r.hold = Math.floorDiv(r.learned, 8) + settings[2];
                        lostLet += c.lost ? 1 : 0;
                    }
                }
            }
            if (!going) {
                r.check = 0;
            }
        }

        static int why(Row r) {
            if (r.armBroken) {
                return 4;
            }
            for (Car c : r.cars) {
                if (c.let && c.front <= 19) {
                    return 1;
                }
            }
            for (Car c : r.cars) {
                boolean over = c.covers(19) || c.covers(20) || c.covers(21);
                if (!r.loopBroken && over && c.front >= 20) {
                    return 2;
                }
            }
            return r.hold > 0 ? 3 : 0;
        }

        private void arm(Row r) {
            if (!r.armBroken) {
                if (why(r) > 0) {
                    r.height += r.height < 4 ? 1 : 0;
                } else {
                    r.height -= r.height > 0 ? 1 : 0;
                }
                if (r.height == 4 && r.hold > 0) {
                    r.hold--;
                }
            }
            upTicks += r.height == 4 ? 1 : 0;
        }

        private void hit(Row r) {
            if (r.covered(20) && r.height < 4 && !r.armBroken) {
                r.armBroken = true;
                hits++;
            }
        }

        private void through(Row r) {
            for (Car c : r.cars) {
                if (c.moved && c.last() == 21) {
                    if (c.let) {
                        through++;
                        r.learned += (8 * c.length - r.learned) / 4;
                    } else {
                        slipped++;
                    }
                }
            }
        }
    }

    private State now = new State();
    private final Deque<State> before = new ArrayDeque<>();
    private final State[] slots = new State[2];
    private String text = "";

    private static void outside(boolean bad) {
        if (bad) {
            throw new IndexOutOfBoundsException();
        }
    }

    private static void illegal(boolean bad) {
        if (bad) {
            throw new IllegalArgumentException();
        }
    }

    private static void notNow(boolean bad) {
        if (bad) {
            throw new IllegalStateException();
        }
    }

    private void lanes(int l) {
        outside(l < 0 || l >= now.rows.size());
    }

    private void remember() {
        before.addLast(now.copy());
        if (before.size() > 14) {
            before.removeFirst();
        }
    }

    int append(int c) {
        illegal(c < 0 || c > 255);
        notNow(text.length() == 120);
        text = text + (char) c;
        return text.length();
    }

    int clearText() {
        int n = text.length();
        text = "";
        return n;
    }

    int errorPosition() {
        for (int i = 1; i <= text.length(); i++) {
            Matcher m = GATE.matcher(text.substring(0, i));
            if (!m.matches() && !m.hitEnd()) {
                return i - 1;
            }
        }
        return GATE.matcher(text).matches() ? -1 : text.length();
    }

    int load() {
        notNow(errorPosition() != -1);
        now = new State();
        slots[0] = null;
        slots[1] = null;
        int left = 0;
        Matcher m = Pattern.compile(COMMAND).matcher(text.substring(1));
        while (m.find()) {
            try {
                command(m.group());
            } catch (RuntimeException e) {
                left++;
            }
        }
        before.clear();
        return left;
    }

    private void command(String c) {
        switch (c.charAt(0)) {
            case 'l':
                lane();
                break;
            case 'v':
                arrive(c.charAt(1) - '0', Integer.parseInt(c.substring(2, 4)), c.contains("x"), c.contains("f"));
                break;
            case 'b':
                loop(c.charAt(1) - '0', true);
                break;
            case 'm':
                mend(c.charAt(1) - '0');
                break;
            default:
                run(Integer.parseInt(c.substring(1)));
                break;
        }
    }

    int about(int what) {
        illegal(what < 0 || what > 9);
        int broken = 0;
        int loops = 0;
        for (Row r : now.rows) {
            broken += r.armBroken ? 1 : 0;
            loops += r.loopBroken ? 1 : 0;
        }
        int[] all = {now.rows.size(), now.ticks, now.vehicles(), now.passed, now.through, now.slipped, now.hits, broken,
            loops, now.lostLet};
        return all[what];
    }

    int laneOf(int l, int what) {
        lanes(l);
        illegal(what < 0 || what > 7);
        Row r = now.rows.get(l);
        int unlet = 0;
        for (Car c : r.cars) {
            unlet += !c.let && c.front < 20 && c.last() < 21 ? 1 : 0;
        }
        int[] all = {r.cars.size(), r.height, r.hold, r.learned, r.loopBroken ? 1 : 0, r.armBroken ? 1 : 0, r.check,
            unlet};
        return all[what];
    }

    int vehicle(int l, int k, int what) {
        lanes(l);
        outside(k < 0 || k >= now.rows.get(l).cars.size());
        illegal(what < 0 || what > 4);
        Car c = now.rows.get(l).cars.get(k);
        int[] all = {c.length, c.front, c.lost ? 1 : 0, c.follower ? 1 : 0, c.let ? 1 : 0};
        return all[what];
    }

    int why(int l) {
        lanes(l);
        return State.why(now.rows.get(l));
    }

    int setting(int what) {
        illegal(what < 0 || what > 2);
        return now.settings[what];
    }

    int lane() {
        notNow(now.rows.size() == 3);
        remember();
        now.rows.add(new Row());
        return now.rows.size() - 1;
    }

    int arrive(int l, int length, boolean lost, boolean follower) {
        lanes(l);
        illegal(length < 2 || length > 12);
        List<Car> cars = now.rows.get(l).cars;
        notNow(cars.size() == 6);
        remember();
        Car c = new Car();
        c.length = length;
        c.lost = lost;
        c.follower = follower;
        c.front = -1;
        if (!cars.isEmpty() && cars.get(cars.size() - 1).last() - 2 < -1) {
            c.front = cars.get(cars.size() - 1).last() - 2;
        }
        cars.add(c);
        return cars.size();
    }

    int loop(int l, boolean broken) {
        lanes(l);
        remember();
        now.rows.get(l).loopBroken = broken;
        return about(8);
    }

    int mend(int l) {
        lanes(l);
        Row r = now.rows.get(l);
        notNow(!r.armBroken || r.covered(20));
        remember();
        r.armBroken = false;
        return r.height;
    }

    int run(int n) {
        illegal(n < 1 || n > 60);
        remember();
        int done = now.through + now.slipped;
        for (int t = 0; t < n; t++) {
            now.tick();
        }
        return now.through + now.slipped - done;
    }

    int set(int what, int v) {
        int[] least = {1, 1, 0};
        int[] most = {20, 60, 20};
        illegal(what < 0 || what > 2);
        illegal(v < least[what] || v > most[what]);
        remember();
        int old = now.settings[what];
        now.settings[what] = v;
        return old;
    }

    int undo() {
        notNow(before.isEmpty());
        now = before.removeLast();
        return before.size();
    }

    int emptyIn(int l) {
        lanes(l);
        State s = now.copy();
        int t = 0;
        while (!s.rows.get(l).cars.isEmpty()) {
            if (t == 400) {
                return -1;
            }
            s.tick();
            t++;
        }
        return t;
    }

    int throughIn(int l, int k) {
        lanes(l);
        outside(k < 0 || k >= now.rows.get(l).cars.size());
        return through(now.copy(), l, k);
    }

    private static int through(State s, int l, int k) {
        Car c = s.rows.get(l).cars.get(k);
        int t = 0;
        while (c.last() < 21) {
            if (t == 400) {
                return -1;
            }
            s.tick();
            t++;
        }
        return t;
    }

    int bestLane(int length) {
        illegal(length < 2 || length > 12);
        int best = -1;
        int soonest = 1000;
        for (int l = 0; l < now.rows.size(); l++) {
            PlainGate g = new PlainGate();
            g.now = now.copy();
            if (now.rows.get(l).cars.size() < 6) {
                int k = g.arrive(l, length, false, false) - 1;
                int t = through(g.now, l, k);
                if (t >= 0 && t < soonest) {
                    soonest = t;
                    best = l;
                }
            }
        }
        return best;
    }

    int coming(int n, int what) {
        illegal(n < 1 || n > 400 || what < 0 || what > 4);
        State s = now.copy();
        for (int t = 0; t < n; t++) {
            s.tick();
        }
        int[] all = {s.through - now.through, s.slipped - now.slipped, s.hits - now.hits, s.vehicles(),
            s.upTicks - now.upTicks};
        return all[what];
    }

    int hitsIn(int l) {
        lanes(l);
        State s = now.copy();
        s.rows.get(l).loopBroken = true;
        if (s.rows.get(l).armBroken) {
            return -1;
        }
        for (int t = 1; t <= 400; t++) {
            s.tick();
            if (s.rows.get(l).armBroken) {
                return t;
            }
        }
        return -1;
    }

    int runScript(int n, long script) {
        illegal(n < 1 || n > 3);
        illegal(script < 0 || Long.toString(script).length() > 5 * n);
        String all = ("000000000000000" + script);
        all = all.substring(all.length() - 5 * n);
        PlainGate g = new PlainGate();
        g.now = now.copy();
        for (int i = 0; i < n; i++) {
            try {
                if (!g.group(all.substring(5 * i, 5 * i + 5))) {
                    return i;
                }
            } catch (RuntimeException e) {
                return i;
            }
        }
        return -1;
    }

    private boolean group(String s) {
        int l = s.charAt(1) - '0';
        int last = s.charAt(4) - '0';
        int middle = Integer.parseInt(s.substring(2, 4));
        int end = Integer.parseInt(s.substring(3, 5));
        if (s.matches("1...[0-3]")) {
            return arrive(l, middle, last == 1 || last == 3, last == 2 || last == 3) > 0;
        } else if (s.matches("200..")) {
            return run(end) >= 0;
        } else if (s.matches("3.[01]00")) {
            return loop(l, s.charAt(2) == '1') >= 0;
        } else if (s.matches("4.000")) {
            return mend(l) >= 0;
        } else if (s.matches("5...0")) {
            return set(l, middle) >= 0;
        } else if (s.matches("6..00")) {
            return laneOf(l, 1) == s.charAt(2) - '0';
        } else if (s.matches("7.00.")) {
            return laneOf(l, 0) <= last;
        } else if (s.matches("800..")) {
            return about(5) <= end;
        } else if (s.matches("9.00.")) {
            return why(l) == last;
        }
        return false;
    }

    int simulate(long seed, int m) {
        illegal(m < 1 || m > 60);
        PlainGate g = new PlainGate();
        g.now = now.copy();
        long x = seed;
        for (int i = 0; i < m; i++) {
            x = x * 6364136223846793005L + 1442695040888963407L;
            int r = (int) (x >>> 33);
            try {
                g.turn(r % 8, r / 8);
            } catch (RuntimeException e) {
                // left out
            }
        }
        int passed = g.now.passed - now.passed;
        return 10000 * (g.now.hits - now.hits) + 100 * (g.now.slipped - now.slipped) + (passed > 99 ? 99 : passed);
    }

    private void turn(int kind, int q) {
        if (kind <= 2) {
            arrive(q % 3, 2 + (q / 4) % 11, (q / 64) % 8 == 0, (q / 512) % 4 == 0);
        } else if (kind == 3) {
            loop(q % 3, (q / 4) % 4 == 0);
        } else if (kind == 4) {
            mend(q % 3);
        } else {
            run(1 + q % 20);
        }
    }

    int save(int slot) {
        outside(slot < 0 || slot > 1);
        slots[slot] = now.copy();
        return now.ticks;
    }

    int restore(int slot) {
        outside(slot < 0 || slot > 1);
        notNow(slots[slot] == null);
        now = slots[slot].copy();
        before.clear();
        return now.ticks;
    }
}
