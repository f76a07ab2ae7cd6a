/** Promises 18 to 22: what would be. Each answer is compared with what then really comes. */
final class AheadTest {
    /** Gates in which vehicles are let, slip through, are hit, and wait for ever. */
    private static final String[] GATES = {
        "Gl",
        "Glv002",
        "Glv012xf",
        "Glb0v012v003v004f",
        "Gllv002v002fv012v103xv104v112f",
        "Glllb2v212v211fv002xv002fv105v106xv107f",
        "Glb0v012t40m0v002fv012xv012f",
        "Glv012v012v012v012v012v012",
        "Glv002xv002fv003xv003fv012v002f",
    };

    public static void main(String[] args) {
        promise18();
        promise19();
        promise20();
        promise21();
        promise21Counts();
        promise22();
        for (String gate : GATES) {
            changeNothing(gate);
            comesTrue(gate);
        }
        Due.end("AheadTest");
    }

    private static void promise18() {
        LorryArms x = Due.loaded("Glv002");
        for (int t = 0; t <= 47; t++) {
            Due.is("emptyIn(0) at " + t, 47 - t, () -> x.emptyIn(0));
            x.run(1);
        }
        Due.is("emptyIn(0) of an empty lane", 0, () -> x.emptyIn(0));
        Due.outside("emptyIn(1)", () -> x.emptyIn(1));
        Due.outside("emptyIn(-1)", () -> x.emptyIn(-1));
        Due.outside("emptyIn(least)", () -> x.emptyIn(Integer.MIN_VALUE));
        LorryArms y = Due.loaded("Glb0v012v002t60");
        Due.is("emptyIn(0) with a broken arm", -1, () -> y.emptyIn(0));
    }

    private static void promise19() {
        LorryArms x = Due.loaded("Glv002v002f");
        for (int t = 0; t <= 46; t++) {
            int first = Math.max(0, 28 - t);
            int second = Math.max(0, 30 - t);
            Due.is("throughIn(0, 0) at " + t, first, () -> x.throughIn(0, 0));
            Due.is("throughIn(0, 1) at " + t, second, () -> x.throughIn(0, 1));
            x.run(1);
        }
        Due.is("throughIn(0, 0) of what was the second", 0, () -> x.throughIn(0, 0));
        Due.outside("throughIn(0, 1)", () -> x.throughIn(0, 1));
        Due.outside("throughIn(0, -1)", () -> x.throughIn(0, -1));
        Due.outside("throughIn(0, 6)", () -> x.throughIn(0, 6));
        Due.outside("throughIn(1, 0)", () -> x.throughIn(1, 0));
        Due.outside("throughIn(-1, 0)", () -> x.throughIn(-1, 0));
        LorryArms y = Due.loaded("Glb0v012v002t33");
        Due.is("throughIn(0, 0) under a broken arm", 5, () -> y.throughIn(0, 0));
        Due.is("throughIn(0, 1) behind a broken arm", -1, () -> y.throughIn(0, 1));
    }

    private static void promise20() {
        LorryArms x = new LorryArms();
        Due.is("bestLane(2) without a lane", -1, () -> x.bestLane(2));
        x.lane();
        x.lane();
        x.lane();
        Due.is("bestLane(2) of equal ones", 0, () -> x.bestLane(2));
        x.arrive(0, 2, false, false);
        Due.is("bestLane(12)", 1, () -> x.bestLane(12));
        x.arrive(1, 2, true, false);
        Due.is("bestLane(12)", 2, () -> x.bestLane(12));
        x.arrive(2, 12, true, false);
        Due.is("bestLane(12)", 0, () -> x.bestLane(12));
        Due.illegal("bestLane(1)", () -> x.bestLane(1));
        Due.illegal("bestLane(13)", () -> x.bestLane(13));
        Due.illegal("bestLane(least)", () -> x.bestLane(Integer.MIN_VALUE));
        // The vehicle that is asked for has a ticket: with the arm 0 broken, the lane 1 alone is left.
        LorryArms y = Due.loaded("Gllb0v012t60");
        Due.is("bestLane(5)", 1, () -> y.bestLane(5));
        LorryArms z = Due.loaded("Glb0v012t60");
        Due.is("bestLane(5) of a broken arm", -1, () -> z.bestLane(5));
        // A full lane takes none, though it would be as soon.
        LorryArms w = Due.loaded("Gllv002v002v002v002v002v002b1v112t60t60t60");
        Due.is("laneOf(0, 0)", 0, () -> w.laneOf(0, 0));
        for (int i = 0; i < 6; i++) {
            w.arrive(0, 2, false, false);
        }
        Due.is("bestLane(5) of a full and a broken lane", -1, () -> w.bestLane(5));
        w.mend(1);
        Due.is("bestLane(5) of a full lane", 1, () -> w.bestLane(5));
    }

    private static void promise21() {
        LorryArms x = new LorryArms();
        Due.illegal("coming(0, 0)", () -> x.coming(0, 0));
        Due.illegal("coming(401, 0)", () -> x.coming(401, 0));
        Due.illegal("coming(-1, 0)", () -> x.coming(-1, 0));
        Due.illegal("coming(1, -1)", () -> x.coming(1, -1));
        Due.illegal("coming(1, 5)", () -> x.coming(1, 5));
        Due.illegal("coming(401, 5)", () -> x.coming(401, 5));
        for (int i = 0; i <= 4; i++) {
            int what = i;
            Due.is("coming(1, " + i + ") without lanes", 0, () -> x.coming(1, what));
            Due.is("coming(400, " + i + ") without lanes", 0, () -> x.coming(400, what));
        }
    }

    private static void coming(LorryArms x, int n, String want) {
        String got = x.coming(n, 0) + " " + x.coming(n, 1) + " " + x.coming(n, 2) + " " + x.coming(n, 3) + " "
                + x.coming(n, 4);
        Due.same("coming(" + n + ", 0 to 4)", got, want);
    }

    private static void promise21Counts() {
        LorryArms x = Due.loaded("Gllv002v002fb1v112");
        coming(x, 24, "0 0 0 3 0");
        coming(x, 25, "0 0 0 3 2");
        coming(x, 27, "0 0 0 3 6");
        coming(x, 28, "1 0 0 3 8");
        coming(x, 29, "1 0 0 3 10");
        coming(x, 30, "1 1 0 3 12");
        coming(x, 32, "1 1 0 3 16");
        coming(x, 33, "1 1 1 3 16");
        coming(x, 38, "2 1 1 3 16");
        coming(x, 46, "2 1 1 3 16");
        coming(x, 47, "2 1 1 2 16");
        coming(x, 49, "2 1 1 1 16");
        coming(x, 57, "2 1 1 0 16");
        coming(x, 400, "2 1 1 0 16");
        // What has been before does not count.
        x.run(33);
        coming(x, 4, "0 0 0 3 0");
        coming(x, 5, "1 0 0 3 0");
    }

    private static void promise22() {
        LorryArms x = Due.loaded("Glv012");
        for (int t = 0; t <= 25; t++) {
            Due.is("hitsIn(0) at " + t, 33 - t, () -> x.hitsIn(0));
            x.run(1);
        }
        Due.is("laneOf(0, 4)", 0, () -> x.laneOf(0, 4));
        Due.is("about(6)", 0, () -> x.about(6));
        x.run(6);
        Due.is("hitsIn(0) in the next tick", 1, () -> x.hitsIn(0));
        Due.outside("hitsIn(1)", () -> x.hitsIn(1));
        Due.outside("hitsIn(-1)", () -> x.hitsIn(-1));
        Due.outside("hitsIn(greatest)", () -> x.hitsIn(Integer.MAX_VALUE));
        LorryArms y = Due.loaded("Glv002");
        Due.is("hitsIn(0) of a short vehicle", -1, () -> y.hitsIn(0));
        LorryArms z = Due.loaded("Glb0v012v012t33");
        Due.is("hitsIn(0) of a broken arm", -1, () -> z.hitsIn(0));
        LorryArms w = Due.loaded("Gllv102");
        Due.is("hitsIn(0) of an empty lane", -1, () -> w.hitsIn(0));
        // Another lane's hits do not count.
        LorryArms v = Due.loaded("Gllb0v012v102");
        Due.is("hitsIn(1)", -1, () -> v.hitsIn(1));
    }

    private static void changeNothing(String gate) {
        LorryArms x = Due.loaded(gate);
        x.run(13);
        String before = Due.whole(x);
        for (int l = 0; l < x.about(0); l++) {
            x.emptyIn(l);
            x.hitsIn(l);
            for (int k = 0; k < x.laneOf(l, 0); k++) {
                x.throughIn(l, k);
            }
            Due.same("the state of " + gate, Due.whole(x), before);
        }
        x.bestLane(12);
        x.coming(400, 2);
        x.runScript(3, 100021200603100L);
        x.simulate(77, 60);
        Due.same("the state of " + gate, Due.whole(x), before);
        Due.is("undo()", 0, x::undo);
    }

    /** Tick by tick: the lane is empty, each vehicle through, and the arm on one, when it was said. */
    private static void comesTrue(String gate) {
        for (int from = 0; from < 60; from += 7) {
            Due.Walk walk = walk(gate, from);
            LorryArms x = walk.at(0);
            int lanes = x.about(0);
            int[] said = new int[5];
            for (int i = 0; i < 5; i++) {
                said[i] = x.coming(100, i);
            }
            int[] had = {x.about(4), x.about(5), x.about(6)};
            int up = 0;
            for (int t = 1; t <= 100; t++) {
                for (int l = 0; l < lanes; l++) {
                    up += walk.at(t).laneOf(l, 1) == 4 ? 1 : 0;
                }
            }
            LorryArms then = walk.at(100);
            int[] came = {then.about(4) - had[0], then.about(5) - had[1], then.about(6) - had[2], then.about(2), up};
            for (int i = 0; i < 5; i++) {
                int due = came[i];
                int is = said[i];
                Due.is("coming(100, " + i + ") at " + from + " of " + gate, due, () -> is);
            }
            for (int l = 0; l < lanes; l++) {
                oneLane(gate, from, l);
            }
        }
    }

    private static Due.Walk walk(String gate, int from) {
        return new Due.Walk(() -> {
            LorryArms x = Due.loaded(gate);
            Due.go(x, from);
            return x;
        });
    }

    private static void oneLane(String gate, int from, int l) {
        Due.Walk walk = walk(gate, from);
        LorryArms now = walk.at(0);
        int empty = now.emptyIn(l);
        int hits = now.hitsIn(l);
        int count = now.laneOf(l, 0);
        int[] through = new int[count];
        for (int k = 0; k < count; k++) {
            through[k] = now.throughIn(l, k);
        }
        int emptyAt = -1;
        int[] throughAt = new int[count];
        java.util.Arrays.fill(throughAt, -1);
        for (int t = 0; t <= 400; t++) {
            LorryArms x = walk.at(t);
            int gone = count - x.laneOf(l, 0);
            emptyAt = emptyAt < 0 && gone == count ? t : emptyAt;
            for (int k = 0; k < count; k++) {
                boolean is = k < gone || x.vehicle(l, k - gone, 1) - x.vehicle(l, k - gone, 0) + 1 >= 21;
                throughAt[k] = throughAt[k] < 0 && is ? t : throughAt[k];
            }
        }
        int due = emptyAt;
        Due.is("emptyIn(" + l + ") at " + from + " of " + gate, due, () -> empty);
        for (int k = 0; k < count; k++) {
            int dueK = throughAt[k];
            int isK = through[k];
            Due.is("throughIn(" + l + ", " + k + ") at " + from + " of " + gate, dueK, () -> isK);
        }
        int dueHit = hitAt(gate, from, l);
        Due.is("hitsIn(" + l + ") at " + from + " of " + gate, dueHit, () -> hits);
    }

    private static int hitAt(String gate, int from, int l) {
        Due.Walk walk = new Due.Walk(() -> {
            LorryArms x = Due.loaded(gate);
            Due.go(x, from);
            x.loop(l, true);
            return x;
        });
        if (walk.at(0).laneOf(l, 5) == 1) {
            return -1;
        }
        for (int t = 1; t <= 400; t++) {
            if (walk.at(t).laneOf(l, 5) == 1) {
                return t;
            }
        }
        return -1;
    }
}
