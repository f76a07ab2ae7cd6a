import java.util.Random;

/** Long runs of drawn calls, always the same ones, on LorryArms and on PlainGate; every answer is compared. */
final class RandomRunsTest {
    private static final int RUNS = 3000;
    private static final int CALLS = 500;

    private final Random random;
    private final LorryArms x = new LorryArms();
    private final PlainGate y = new PlainGate();
    private final int wildness;
    private int run;
    private int call;

    private RandomRunsTest(int run) {
        this.run = run;
        this.random = new Random(run);
        this.wildness = run % 3 == 0 ? 8 : 40;
    }

    public static void main(String[] args) {
        for (int i = 0; i < RUNS; i++) {
            new RandomRunsTest(i).go();
        }
        Due.end("RandomRunsTest");
    }

    private void go() {
        while (call < CALLS - 6) {
            if (run % 2 == 0 && random.nextInt(60) == 0) {
                text();
            } else if (random.nextInt(3) > 0) {
                act();
            } else {
                ask();
            }
        }
    }

    private void both(String name, Due.Call got, Due.Call want) {
        call++;
        Due.same("run " + run + ", call " + call + ": " + name, Due.of(got), Due.of(want));
    }

    /** A number in the range, seldom one next to it or far from it. */
    private int in(int least, int most) {
        if (random.nextInt(wildness) == 0) {
            int[] wild = {least - 1, most + 1, Integer.MIN_VALUE, Integer.MAX_VALUE, least, most};
            return wild[random.nextInt(wild.length)];
        }
        return least + random.nextInt(most - least + 1);
    }

    private int lane() {
        return random.nextInt(20) == 0 ? in(0, 2) : random.nextInt(Math.max(1, y.about(0)));
    }

    private void text() {
        both("clearText()", x::clearText, y::clearText);
        String s = drawnText();
        int room = CALLS - 60 - call;
        for (int i = 0; i < s.length() && i < room; i++) {
            int c = s.charAt(i);
            both("append(" + c + ")", () -> x.append(c), () -> y.append(c));
        }
        both("errorPosition()", x::errorPosition, y::errorPosition);
        both("load()", x::load, y::load);
    }

    private String drawnText() {
        StringBuilder b = new StringBuilder("Gl");
        int most = random.nextInt(4) == 0 ? 122 : 40;
        while (b.length() < most) {
            b.append(drawnCommand());
        }
        if (random.nextInt(3) == 0) {
            String signs = "Glvbmt0123456789xf \u00e9";
            b.setCharAt(random.nextInt(b.length()), signs.charAt(random.nextInt(signs.length())));
        }
        if (random.nextInt(3) == 0) {
            b.setLength(random.nextInt(b.length() + 1));
        }
        return b.toString();
    }

    private String drawnCommand() {
        int l = random.nextInt(10) < 7 ? 0 : random.nextInt(3);
        switch (random.nextInt(8)) {
            case 0:
                return "l";
            case 1:
                return "b" + l;
            case 2:
                return "m" + l;
            case 3:
            case 4:
                return String.format("t%02d", 1 + random.nextInt(60));
            default:
                return String.format("v%d%02d%s%s", l, 2 + random.nextInt(11), random.nextInt(3) == 0 ? "x" : "",
                        random.nextInt(3) == 0 ? "f" : "");
        }
    }

    private void act() {
        int l = lane();
        boolean b = random.nextInt(4) == 0;
        boolean f = random.nextInt(3) == 0;
        int n = random.nextBoolean() ? in(1, 60) : in(1, 8);
        int slot = in(0, 1);
        switch (random.nextInt(20)) {
            case 0:
                both("lane()", x::lane, y::lane);
                break;
            case 1:
            case 2:
                both("loop(" + l + ", " + b + ")", () -> x.loop(l, b), () -> y.loop(l, b));
                break;
            case 3:
            case 4:
                both("mend(" + l + ")", () -> x.mend(l), () -> y.mend(l));
                break;
            case 5:
                set();
                break;
            case 6:
                both("undo()", x::undo, y::undo);
                break;
            case 7:
                both("save(" + slot + ")", () -> x.save(slot), () -> y.save(slot));
                break;
            case 8:
                both("restore(" + slot + ")", () -> x.restore(slot), () -> y.restore(slot));
                break;
            case 9:
            case 10:
            case 11:
            case 12:
            case 13:
                both("run(" + n + ")", () -> x.run(n), () -> y.run(n));
                break;
            default:
                int length = in(2, 12);
                both("arrive(" + l + ", " + length + ", " + b + ", " + f + ")", () -> x.arrive(l, length, b, f),
                        () -> y.arrive(l, length, b, f));
                break;
        }
    }

    private void set() {
        int what = in(0, 2);
        int v = in(0, random.nextBoolean() ? 20 : 60);
        both("set(" + what + ", " + v + ")", () -> x.set(what, v), () -> y.set(what, v));
    }

    private void ask() {
        int l = lane();
        int k = in(0, 5);
        int length = in(2, 12);
        int n = in(1, 400);
        int what = in(0, 4);
        switch (random.nextInt(12)) {
            case 0:
                both("emptyIn(" + l + ")", () -> x.emptyIn(l), () -> y.emptyIn(l));
                break;
            case 1:
            case 2:
                both("throughIn(" + l + ", " + k + ")", () -> x.throughIn(l, k), () -> y.throughIn(l, k));
                break;
            case 3:
                both("bestLane(" + length + ")", () -> x.bestLane(length), () -> y.bestLane(length));
                break;
            case 4:
                both("coming(" + n + ", " + what + ")", () -> x.coming(n, what), () -> y.coming(n, what));
                break;
            case 5:
                both("hitsIn(" + l + ")", () -> x.hitsIn(l), () -> y.hitsIn(l));
                break;
            case 6:
            case 7:
                script();
                break;
            case 8:
                long seed = random.nextLong();
                int m = in(1, 60);
                both("simulate(" + seed + ", " + m + ")", () -> x.simulate(seed, m), () -> y.simulate(seed, m));
                break;
            case 9:
                both("vehicle(" + l + ", " + k + ", " + what + ")", () -> x.vehicle(l, k, what),
                        () -> y.vehicle(l, k, what));
                break;
            default:
                number(l);
                break;
        }
    }

    private void number(int l) {
        int what = in(0, 9);
        switch (random.nextInt(4)) {
            case 0:
                both("why(" + l + ")", () -> x.why(l), () -> y.why(l));
                break;
            case 1:
                both("about(" + what + ")", () -> x.about(what), () -> y.about(what));
                break;
            case 2:
                both("setting(" + what + ")", () -> x.setting(what), () -> y.setting(what));
                break;
            default:
                both("laneOf(" + l + ", " + what + ")", () -> x.laneOf(l, what), () -> y.laneOf(l, what));
                break;
        }
    }

    private void script() {
        int n = in(1, 3);
        StringBuilder b = new StringBuilder();
        for (int i = 0; i < Math.max(1, Math.min(3, n)); i++) {
            b.append(drawnGroup());
        }
        if (random.nextInt(10) == 0) {
            b.setCharAt(random.nextInt(b.length()), (char) ('0' + random.nextInt(10)));
        }
        if (random.nextInt(20) == 0) {
            b.append(random.nextInt(10));
        }
        long script = Long.parseLong(b.toString()) * (random.nextInt(40) == 0 ? -1 : 1);
        both("runScript(" + n + ", " + script + ")", () -> x.runScript(n, script), () -> y.runScript(n, script));
    }

    private String drawnGroup() {
        int l = random.nextInt(8) == 0 ? random.nextInt(10) : random.nextInt(Math.max(1, y.about(0)));
        switch (random.nextInt(10)) {
            case 0:
            case 1:
                return String.format("1%d%02d%d", l, 2 + random.nextInt(11), random.nextInt(4));
            case 2:
                return String.format("200%02d", random.nextInt(64));
            case 3:
                return String.format("3%d%d00", l, random.nextInt(2));
            case 4:
                return String.format("4%d000", l);
            case 5:
                return String.format("5%d%02d0", random.nextInt(4), random.nextInt(62));
            case 6:
                return String.format("6%d%d00", l, random.nextBoolean() ? 0 : 4);
            case 7:
                return String.format("7%d00%d", l, random.nextInt(7));
            case 8:
                return String.format("800%02d", random.nextInt(12));
            default:
                return String.format("9%d00%d", l, random.nextInt(5));
        }
    }
}
