/** Promises 11 to 17: the actions and undo. */
final class ActionsTest {
    public static void main(String[] args) {
        promise11();
        promise12();
        promise12Fronts();
        promise13();
        promise14();
        promise15();
        promise16();
        promise17();
        promise17Again();
        promise17EveryAction();
        promise17Forgets();
        throwsChangeNothing();
        laneIsNewBehindUndo();
        Due.end("ActionsTest");
    }

    private static void promise11() {
        LorryArms x = new LorryArms();
        Due.is("lane()", 0, x::lane);
        Due.is("lane()", 1, x::lane);
        Due.is("lane()", 2, x::lane);
        Due.notNow("a fourth lane()", x::lane);
        Due.is("about(0)", 3, () -> x.about(0));
        Due.same("three lanes", Due.whole(x), "3 0 0 0 0 0 0 0 0 0 3 12 2 "
                + "| 0 0 0 48 0 0 0 0 | 0 0 0 48 0 0 0 0 | 0 0 0 48 0 0 0 0 ");
    }

    private static void promise12() {
        LorryArms x = new LorryArms();
        Due.outside("arrive(0, ..) without a lane", () -> x.arrive(0, 2, false, false));
        x.lane();
        Due.outside("arrive(1, ..)", () -> x.arrive(1, 2, false, false));
        Due.outside("arrive(-1, ..)", () -> x.arrive(-1, 2, false, false));
        Due.outside("arrive(-1, 1, ..)", () -> x.arrive(-1, 1, false, false));
        Due.illegal("arrive(0, 1, ..)", () -> x.arrive(0, 1, false, false));
        Due.illegal("arrive(0, 13, ..)", () -> x.arrive(0, 13, false, false));
        Due.illegal("arrive(0, least, ..)", () -> x.arrive(0, Integer.MIN_VALUE, false, false));
        Due.illegal("arrive(0, greatest, ..)", () -> x.arrive(0, Integer.MAX_VALUE, false, false));
        for (int i = 1; i <= 6; i++) {
            Due.is("arrive " + i, i, () -> x.arrive(0, 12, false, true));
        }
        Due.notNow("a seventh arrive", () -> x.arrive(0, 12, false, false));
        Due.illegal("arrive(0, 13, ..) at six", () -> x.arrive(0, 13, false, false));
        Due.outside("arrive(3, 13, ..) at six", () -> x.arrive(3, 13, false, false));
        Due.is("laneOf(0, 0)", 6, () -> x.laneOf(0, 0));
        Due.is("vehicle(0, 5, 1)", -66, () -> x.vehicle(0, 5, 1));
        x.lane();
        Due.is("arrive(1, 2, ..)", 1, () -> x.arrive(1, 2, true, false));
        Due.same("the vehicle", x.vehicle(1, 0, 0) + " " + x.vehicle(1, 0, 1) + " " + x.vehicle(1, 0, 2) + " "
                + x.vehicle(1, 0, 3) + " " + x.vehicle(1, 0, 4), "2 -1 1 0 0");
        // When one has passed, there is room for the next one again.
        x.run(60);
        x.run(1);
        Due.is("laneOf(0, 0)", 5, () -> x.laneOf(0, 0));
        Due.is("arrive", 6, () -> x.arrive(0, 2, false, false));
        Due.is("let", 0, () -> x.vehicle(0, 5, 4));
    }

    /** Behind a vehicle with the last cell z the front is -1, or z - 2 if that is less. */
    private static void promise12Fronts() {
        for (int ticks = 0; ticks <= 8; ticks++) {
            LorryArms x = new LorryArms();
            x.lane();
            x.arrive(0, 4, false, false);
            for (int t = 0; t < ticks; t++) {
                x.run(1);
            }
            x.arrive(0, 3, false, false);
            int last = -4 + ticks;
            int due = last - 2 < -1 ? last - 2 : -1;
            Due.is("the front behind the last cell " + last, due, () -> x.vehicle(0, 1, 1));
        }
    }

    private static void promise13() {
        LorryArms x = new LorryArms();
        Due.outside("loop(0, true) without a lane", () -> x.loop(0, true));
        x.lane();
        x.lane();
        Due.is("loop(0, true)", 1, () -> x.loop(0, true));
        Due.is("loop(0, true) again", 1, () -> x.loop(0, true));
        Due.is("loop(1, true)", 2, () -> x.loop(1, true));
        Due.is("loop(0, false)", 1, () -> x.loop(0, false));
        Due.is("laneOf(0, 4)", 0, () -> x.laneOf(0, 4));
        Due.is("laneOf(1, 4)", 1, () -> x.laneOf(1, 4));
        Due.is("loop(0, false) again", 1, () -> x.loop(0, false));
        Due.is("loop(1, false)", 0, () -> x.loop(1, false));
        Due.outside("loop(2, true)", () -> x.loop(2, true));
        Due.outside("loop(-1, false)", () -> x.loop(-1, false));
        Due.outside("loop(greatest, false)", () -> x.loop(Integer.MAX_VALUE, false));
    }

    private static void promise14() {
        LorryArms x = Due.loaded("Glb0v012t32");
        Due.notNow("mend(0) of a whole arm", () -> x.mend(0));
        Due.outside("mend(1)", () -> x.mend(1));
        Due.outside("mend(-1)", () -> x.mend(-1));
        x.run(1);
        for (int t = 33; t <= 37; t++) {
            Due.notNow("mend(0) at " + t, () -> x.mend(0));
            x.run(1);
        }
        Due.is("mend(0) at 38", 3, () -> x.mend(0));
        Due.is("laneOf(0, 5)", 0, () -> x.laneOf(0, 5));
        Due.is("laneOf(0, 1)", 3, () -> x.laneOf(0, 1));
        Due.is("about(7)", 0, () -> x.about(7));
        Due.is("about(6)", 1, () -> x.about(6));
        Due.notNow("mend(0) again", () -> x.mend(0));
        x.run(1);
        Due.is("laneOf(0, 1)", 2, () -> x.laneOf(0, 1));
        Due.is("undo()", 7, x::undo);
        Due.is("undo()", 6, x::undo);
        Due.is("laneOf(0, 5)", 1, () -> x.laneOf(0, 5));
        // The next vehicle waits with its front at 19, its length over no cell of the arm: no hindrance.
        LorryArms y = Due.loaded("Glb0v012v012t60");
        Due.is("mend(0)", 3, () -> y.mend(0));
    }

    private static void promise15() {
        LorryArms x = Due.loaded("Gllv002v102v002f");
        Due.illegal("run(0)", () -> x.run(0));
        Due.illegal("run(61)", () -> x.run(61));
        Due.illegal("run(-1)", () -> x.run(-1));
        Due.illegal("run(greatest)", () -> x.run(Integer.MAX_VALUE));
        Due.is("about(1)", 0, () -> x.about(1));
        Due.is("run(27)", 0, () -> x.run(27));
        Due.is("run(1)", 2, () -> x.run(1));
        Due.is("run(60)", 1, () -> x.run(60));
        Due.is("about(1)", 88, () -> x.about(1));
        Due.is("about(3)", 3, () -> x.about(3));
        // What went through and slipped through before does not count.
        x.arrive(0, 2, false, false);
        x.arrive(0, 2, false, true);
        Due.is("run(60) of the next ones", 2, () -> x.run(60));
        Due.is("run(60) of none", 0, () -> x.run(60));
        LorryArms y = new LorryArms();
        Due.is("run(60) without lanes", 0, () -> y.run(60));
        Due.is("run(1)", 0, () -> y.run(1));
        Due.is("about(1)", 61, () -> y.about(1));
    }

    private static void promise16() {
        LorryArms x = new LorryArms();
        int[] least = {1, 1, 0};
        int[] most = {20, 60, 20};
        int[] first = {3, 12, 2};
        for (int i = 0; i < 3; i++) {
            int what = i;
            Due.illegal("set(" + what + ", too little)", () -> x.set(what, least[what] - 1));
            Due.illegal("set(" + what + ", too much)", () -> x.set(what, most[what] + 1));
            Due.illegal("set(" + what + ", least of all)", () -> x.set(what, Integer.MIN_VALUE));
            Due.is("setting(" + what + ")", first[what], () -> x.setting(what));
            Due.is("set(" + what + ", least)", first[what], () -> x.set(what, least[what]));
            Due.is("setting(" + what + ")", least[what], () -> x.setting(what));
            Due.is("set(" + what + ", most)", least[what], () -> x.set(what, most[what]));
            Due.is("setting(" + what + ")", most[what], () -> x.setting(what));
        }
        Due.illegal("set(-1, 5)", () -> x.set(-1, 5));
        Due.illegal("set(3, 5)", () -> x.set(3, 5));
        Due.illegal("set(greatest, 5)", () -> x.set(Integer.MAX_VALUE, 5));
        Due.is("undo()", 5, x::undo);
        Due.is("setting(2)", 0, () -> x.setting(2));
    }

    /** What a run changes in a lane with one vehicle: few numbers, as an object answers for 512 calls. */
    private static String told(LorryArms x) {
        return x.about(1) + " " + x.vehicle(0, 0, 1) + " " + x.vehicle(0, 0, 4) + " " + x.laneOf(0, 1) + " "
                + x.laneOf(0, 2) + " " + x.laneOf(0, 6);
    }

    private static void promise17() {
        LorryArms x = new LorryArms();
        Due.notNow("undo() at first", x::undo);
        String[] states = new String[20];
        x.lane();
        x.arrive(0, 2, false, false);
        x.run(12);
        for (int i = 0; i < 20; i++) {
            states[i] = told(x);
            x.run(1);
        }
        for (int i = 13; i >= 0; i--) {
            Due.is("undo()", i, x::undo);
            Due.same("the state behind it", told(x), states[6 + i]);
        }
        Due.notNow("undo() of a fifteenth action", x::undo);
        Due.same("the state behind it", told(x), states[6]);
    }

    /** Ones that are taken back make room; the ring goes on from there. */
    private static void promise17Again() {
        LorryArms x = new LorryArms();
        for (int i = 0; i < 20; i++) {
            x.run(1);
        }
        for (int i = 13; i >= 0; i--) {
            Due.is("undo()", i, x::undo);
        }
        for (int i = 0; i < 5; i++) {
            x.run(2);
        }
        Due.is("undo()", 4, x::undo);
        Due.is("about(1)", 14, () -> x.about(1));
        for (int i = 0; i < 30; i++) {
            x.run(1);
        }
        Due.is("undo()", 13, x::undo);
        Due.is("undo()", 12, x::undo);
        Due.is("about(1)", 42, () -> x.about(1));
        x.set(0, 9);
        Due.is("undo()", 12, x::undo);
    }

    /** Each action is remembered, also one that changes nothing; nothing else is. */
    private static void promise17EveryAction() {
        LorryArms x = Due.loaded("Glb0v012t60");
        String before = Due.whole(x);
        Runnable[] actions = {x::lane, () -> x.arrive(0, 5, true, true), () -> x.loop(0, false), () -> x.loop(0, true),
            () -> x.mend(0), () -> x.run(60), () -> x.set(1, 13), () -> x.set(0, 3)};
        for (int i = 0; i < actions.length; i++) {
            actions[i].run();
            Due.is("undo() of the action " + i, 0, x::undo);
            Due.same("the state behind it", Due.whole(x), before);
        }
        x.append('G');
        x.clearText();
        x.errorPosition();
        x.emptyIn(0);
        x.bestLane(3);
        x.coming(9, 1);
        x.hitsIn(0);
        x.runScript(1, 20005);
        x.simulate(1, 9);
        x.save(0);
        Due.notNow("undo() of no action", x::undo);
    }

    /** The text and the save slots do not belong to the state. */
    private static void promise17Forgets() {
        LorryArms x = new LorryArms();
        x.lane();
        x.append('G');
        x.run(5);
        x.save(1);
        Due.is("undo()", 1, x::undo);
        Due.is("undo()", 0, x::undo);
        Due.is("clearText()", 1, x::clearText);
        Due.is("restore(1)", 5, () -> x.restore(1));
        Due.notNow("undo() behind restore()", x::undo);
        Due.is("about(0)", 1, () -> x.about(0));
    }

    private static void throwsChangeNothing() {
        LorryArms x = Due.loaded("Glllv002v012xt09v002fv002v003v004");
        String before = Due.whole(x);
        Due.notNow("lane()", x::lane);
        Due.notNow("arrive()", () -> x.arrive(0, 5, false, false));
        Due.illegal("arrive()", () -> x.arrive(0, 13, false, false));
        Due.outside("arrive()", () -> x.arrive(3, 3, false, false));
        Due.outside("loop()", () -> x.loop(3, true));
        Due.notNow("mend()", () -> x.mend(0));
        Due.illegal("run()", () -> x.run(61));
        Due.illegal("set()", () -> x.set(0, 21));
        Due.notNow("undo()", x::undo);
        Due.outside("save()", () -> x.save(2));
        Due.notNow("restore()", () -> x.restore(1));
        Due.same("the state", Due.whole(x), before);
        Due.notNow("undo()", x::undo);
    }

    private static void laneIsNewBehindUndo() {
        LorryArms x = new LorryArms();
        x.lane();
        x.save(0);
        x.lane();
        x.arrive(1, 12, true, false);
        x.loop(1, true);
        for (int i = 0; i < 3; i++) {
            x.run(60);
        }
        String used = Due.whole(x);
        x.save(1);
        x.restore(0);
        Due.is("lane()", 1, x::lane);
        Due.same("a new lane", Due.whole(x), "2 0 0 0 0 0 0 0 0 0 3 12 2 | 0 0 0 48 0 0 0 0 | 0 0 0 48 0 0 0 0 ");
        x.restore(1);
        Due.same("the used lane", Due.whole(x), used);
        LorryArms y = new LorryArms();
        y.lane();
        y.arrive(0, 2, false, false);
        y.run(50);
        y.undo();
        y.undo();
        y.undo();
        y.lane();
        Due.same("a new lane", Due.whole(y), "1 0 0 0 0 0 0 0 0 0 3 12 2 | 0 0 0 48 0 0 0 0 ");
        Due.is("throughIn of no vehicle", -7, () -> y.arrive(0, 2, false, false) == 1 ? -7 : 0);
        Due.is("throughIn(0, 0)", 28, () -> y.throughIn(0, 0));
    }
}
