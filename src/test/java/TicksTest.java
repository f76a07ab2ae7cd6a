/** The steps of a tick (Terms), counted out by hand, as promises 6 to 10, 15 and 16 show them. */
final class TicksTest {
    public static void main(String[] args) {
        oneVehicle();
        lostTicket();
        followerSlipsThrough();
        followerWaitsForTheArm();
        followerThatIsLet();
        armComesDown();
        armComesDownOnAFront();
        loopHoldsTheArm();
        brokenArmStays();
        heldWhileBroken();
        learns();
        settings();
        manyLanes();
        promise6();
        promise7();
        promise8();
        promise9();
        promise10();
        Due.end("TicksTest");
    }

    private static LorryArms gate(String commands) {
        return Due.loaded("Gl" + commands);
    }

    /** height, hold, learned, check, vehicles not let */
    private static void lane(LorryArms x, String want) {
        String got = x.laneOf(0, 1) + " " + x.laneOf(0, 2) + " " + x.laneOf(0, 3) + " " + x.laneOf(0, 6) + " "
                + x.laneOf(0, 7);
        Due.same("the lane at the tick " + x.about(1), got, want);
    }

    private static void front(LorryArms x, int k, int want) {
        Due.is("the front of " + k + " at the tick " + x.about(1), want, () -> x.vehicle(0, k, 1));
    }

    private static void oneVehicle() {
        LorryArms x = gate("v002");
        String[] want = {"0 0 48 1 1", "0 0 48 2 1", "1 8 48 0 0", "2 8 48 0 0", "3 8 48 0 0", "4 7 48 0 0",
            "4 6 48 0 0", "4 5 48 0 0", "4 4 40 0 0", "4 3 40 0 0", "4 2 40 0 0", "4 1 40 0 0", "4 0 40 0 0",
            "3 0 40 0 0", "2 0 40 0 0", "1 0 40 0 0", "0 0 40 0 0", "0 0 40 0 0"};
        int[] fronts = {19, 19, 19, 19, 19, 19, 20, 21, 22, 23, 24, 25, 26, 27, 28, 29, 30, 31};
        Due.is("run(19)", 0, () -> x.run(19));
        lane(x, "0 0 48 0 1");
        front(x, 0, 18);
        for (int i = 0; i < want.length; i++) {
            int t = i;
            Due.is("run(1) to " + (20 + i), t == 8 ? 1 : 0, () -> x.run(1));
            lane(x, want[i]);
            front(x, 0, fronts[i]);
            Due.is("let at " + (20 + i), t >= 2 ? 1 : 0, () -> x.vehicle(0, 0, 4));
        }
        Due.is("run(9)", 0, () -> x.run(9));
        front(x, 0, 40);
        Due.is("about(3)", 0, () -> x.about(3));
        Due.is("run(1)", 0, () -> x.run(1));
        Due.is("about(3)", 1, () -> x.about(3));
        Due.is("about(2)", 0, () -> x.about(2));
        Due.is("about(4)", 1, () -> x.about(4));
        Due.is("about(5)", 0, () -> x.about(5));
        Due.is("about(6)", 0, () -> x.about(6));
        Due.is("about(9)", 0, () -> x.about(9));
    }

    private static void lostTicket() {
        LorryArms x = gate("v002xt30");
        lane(x, "0 0 48 11 1");
        Due.is("about(9)", 0, () -> x.about(9));
        x.run(1);
        lane(x, "1 8 48 0 0");
        Due.is("about(9)", 1, () -> x.about(9));
        Due.is("run(5)", 0, () -> x.run(5));
        Due.is("run(1)", 1, () -> x.run(1));
        Due.is("about(1)", 37, () -> x.about(1));
    }

    private static void followerSlipsThrough() {
        LorryArms x = gate("v002v002ft25");
        front(x, 0, 19);
        front(x, 1, 17);
        x.run(1);
        front(x, 0, 20);
        front(x, 1, 18);
        x.run(1);
        front(x, 1, 19);
        lane(x, "4 5 48 1 1");
        x.run(1);
        front(x, 1, 20);
        lane(x, "4 4 40 0 0");
        Due.is("let", 0, () -> x.vehicle(0, 1, 4));
        Due.is("about(4)", 1, () -> x.about(4));
        x.run(1);
        Due.is("about(5)", 0, () -> x.about(5));
        Due.is("run(1)", 1, () -> x.run(1));
        Due.is("about(5)", 1, () -> x.about(5));
        Due.is("about(4)", 1, () -> x.about(4));
        lane(x, "4 2 40 0 0");
    }

    /** A follower does not move with the arm below 4; its check begins, and makes it one that is let. */
    private static void followerWaitsForTheArm() {
        LorryArms x = gate("v002ft21");
        lane(x, "0 0 48 2 1");
        front(x, 0, 19);
        x.run(1);
        lane(x, "1 8 48 0 0");
        x.run(3);
        front(x, 0, 19);
        x.run(1);
        front(x, 0, 20);
        Due.is("run(2)", 1, () -> x.run(2));
        Due.is("about(4)", 1, () -> x.about(4));
        Due.is("about(5)", 0, () -> x.about(5));
    }

    /** With a check of one tick the follower is let at the tick at which it comes to the arm. */
    private static void followerThatIsLet() {
        LorryArms x = gate("v002v002ft26");
        x.set(0, 1);
        x.run(1);
        front(x, 1, 19);
        Due.is("let", 1, () -> x.vehicle(0, 1, 4));
        lane(x, "4 7 48 0 0");
        Due.is("run(3)", 2, () -> x.run(3));
        Due.is("about(4)", 2, () -> x.about(4));
        Due.is("about(5)", 0, () -> x.about(5));
    }

    private static void armComesDown() {
        LorryArms x = gate("b0v012t32");
        front(x, 0, 26);
        lane(x, "4 0 48 0 0");
        Due.is("about(6)", 0, () -> x.about(6));
        Due.is("why(0)", 0, () -> x.why(0));
        x.run(1);
        lane(x, "3 0 48 0 0");
        Due.is("about(6)", 1, () -> x.about(6));
        Due.is("about(7)", 1, () -> x.about(7));
        Due.is("why(0)", 4, () -> x.why(0));
        Due.is("run(4)", 0, () -> x.run(4));
        lane(x, "3 0 48 0 0");
        Due.is("run(1)", 1, () -> x.run(1));
        lane(x, "3 0 60 0 0");
        Due.is("about(4)", 1, () -> x.about(4));
        Due.is("about(6)", 1, () -> x.about(6));
    }

    /** The hold ends in the tick in which a follower moves on: the arm comes down on its first cell. */
    private static void armComesDownOnAFront() {
        LorryArms x = gate("b0v002t12v002ft20");
        front(x, 1, 19);
        lane(x, "4 0 40 1 1");
        x.run(1);
        front(x, 1, 20);
        lane(x, "3 0 40 0 0");
        Due.is("about(6)", 1, () -> x.about(6));
        Due.notNow("mend(0)", () -> x.mend(0));
        Due.is("run(2)", 1, () -> x.run(2));
        Due.is("about(5)", 1, () -> x.about(5));
        Due.is("mend(0)", 3, () -> x.mend(0));
    }

    private static void loopHoldsTheArm() {
        LorryArms x = gate("v012t38");
        lane(x, "4 0 60 0 0");
        Due.is("why(0)", 2, () -> x.why(0));
        x.run(1);
        // The last cell is 22: the loop is free, and the arm goes down behind the vehicle.
        lane(x, "3 0 60 0 0");
        Due.is("about(6)", 0, () -> x.about(6));
        // A loop that is mended in time lifts the arm again.
        LorryArms y = gate("b0v012t32");
        y.loop(0, false);
        y.run(1);
        lane(y, "4 0 48 0 0");
        Due.is("about(6)", 0, () -> y.about(6));
    }

    /** Behind a hit, with the arm mended at its height of 3, the next vehicle lifts it from there. */
    private static void brokenArmStays() {
        LorryArms x = gate("b0v012v003t60");
        front(x, 0, 19);
        lane(x, "3 9 60 0 0");
        Due.is("let", 1, () -> x.vehicle(0, 0, 4));
        Due.is("run(60)", 0, () -> x.run(60));
        front(x, 0, 19);
        lane(x, "3 9 60 0 0");
        Due.is("hits", 1, () -> x.about(6));
        Due.is("mend(0)", 3, () -> x.mend(0));
        x.run(1);
        front(x, 0, 19);
        lane(x, "4 8 60 0 0");
        x.run(1);
        front(x, 0, 20);
        Due.is("run(2)", 0, () -> x.run(2));
        Due.is("run(1)", 1, () -> x.run(1));
        lane(x, "4 4 51 0 0");
    }

    /** A vehicle is let while the arm is broken, and the hold stays until it is mended. */
    private static void heldWhileBroken() {
        LorryArms x = gate("b0v012v003fv004t60");
        front(x, 0, 19);
        Due.is("about(7)", 1, () -> x.about(7));
        Due.is("laneOf(0, 2)", 9, () -> x.laneOf(0, 2));
        x.run(10);
        Due.is("laneOf(0, 2)", 9, () -> x.laneOf(0, 2));
        Due.is("laneOf(0, 5)", 1, () -> x.laneOf(0, 5));
        Due.is("laneOf(0, 1)", 3, () -> x.laneOf(0, 1));
    }

    /** (8 * length - learned) / 4, towards 0, above and below what has been learned. */
    private static void learns() {
        int[] lengths = {2, 3, 4, 5, 6, 7, 8, 9, 10, 11, 12};
        int[] want = {40, 42, 44, 46, 48, 50, 52, 54, 56, 58, 60};
        for (int i = 0; i < lengths.length; i++) {
            LorryArms x = new LorryArms();
            x.lane();
            x.arrive(0, lengths[i], false, false);
            x.run(60);
            int due = want[i];
            Due.is("learned from " + lengths[i], due, () -> x.laneOf(0, 3));
        }
        // 48 + 12 = 60; 60 - 11 = 49 by 16 - 60 = -44; 49 - 8 = 41 by 16 - 49 = -33; 41 + 13 = 54 by 96 - 41 = 55.
        LorryArms x = gate("v012t60");
        Due.is("learned", 60, () -> x.laneOf(0, 3));
        int[] more = {2, 2, 12};
        int[] then = {49, 41, 54};
        for (int i = 0; i < more.length; i++) {
            x.arrive(0, more[i], false, false);
            x.run(60);
            int due = then[i];
            Due.is("learned behind " + more[i], due, () -> x.laneOf(0, 3));
        }
        // The hold is what has been learned, in eighths, rounded down, and the setting 2.
        x.set(2, 20);
        x.arrive(0, 5, false, false);
        x.run(22);
        Due.is("hold", 54 / 8 + 20, () -> x.laneOf(0, 2));
    }

    private static void settings() {
        LorryArms x = gate("v002");
        x.set(0, 1);
        x.set(2, 0);
        x.run(20);
        lane(x, "1 6 48 0 0");
        LorryArms y = gate("v002");
        y.set(0, 20);
        y.run(38);
        lane(y, "0 0 48 19 1");
        y.run(1);
        lane(y, "1 8 48 0 0");
        LorryArms z = gate("v002x");
        z.set(1, 60);
        z.run(60);
        z.run(18);
        lane(z, "0 0 48 59 1");
        z.run(1);
        lane(z, "1 8 48 0 0");
        // A lost ticket has the setting 1 alone, also if that is the smaller one.
        LorryArms w = gate("v002x");
        w.set(0, 20);
        w.set(1, 1);
        w.run(20);
        lane(w, "1 8 48 0 0");
        // A check that has gone on for long is ended by the next tick behind a smaller setting.
        LorryArms v = gate("v002x");
        v.run(30);
        lane(v, "0 0 48 11 1");
        v.set(1, 5);
        lane(v, "0 0 48 11 1");
        v.run(1);
        lane(v, "1 8 48 0 0");
    }

    private static void manyLanes() {
        LorryArms x = Due.loaded("Glllv002v102b1v212xb2t28");
        Due.same("three lanes", Due.whole(x), "3 28 3 0 2 0 0 0 2 0 3 12 2 | 1 4 4 40 0 0 0 0 : 2 22 0 0 1 "
                + "| 1 4 4 40 1 0 0 0 : 2 22 0 0 1 | 1 0 0 48 1 0 9 1 : 12 19 1 0 0 ");
        Due.is("run(20)", 1, () -> x.run(20));
        Due.same("three lanes", Due.whole(x), "3 48 1 2 3 0 1 1 2 1 3 12 2 | 0 0 0 40 0 0 0 0 "
                + "| 0 0 0 40 1 0 0 0 | 1 3 0 60 1 1 0 0 : 12 33 1 0 1 ");
    }

    private static void promise6() {
        LorryArms x = Due.loaded("Gllb1v012xv002fb0t60t60");
        String[] names = {"lanes", "ticks", "vehicles", "passed", "through", "slipped", "hits", "arms", "loops", "lost"};
        int[] want = {2, 120, 1, 1, 1, 0, 1, 1, 2, 1};
        for (int i = 0; i < want.length; i++) {
            int what = i;
            Due.is("about(" + names[i] + ")", want[i], () -> x.about(what));
        }
        Due.illegal("about(-1)", () -> x.about(-1));
        Due.illegal("about(10)", () -> x.about(10));
        Due.illegal("about(greatest)", () -> x.about(Integer.MAX_VALUE));
        Due.illegal("about(least)", () -> x.about(Integer.MIN_VALUE));
    }

    private static void promise7() {
        LorryArms x = gate("b0v002v004v004v012t28");
        int[] want = {4, 4, 4, 40, 1, 0, 2, 3};
        for (int i = 0; i < want.length; i++) {
            int what = i;
            Due.is("laneOf(0, " + i + ")", want[i], () -> x.laneOf(0, what));
        }
        Due.illegal("laneOf(0, -1)", () -> x.laneOf(0, -1));
        Due.illegal("laneOf(0, 8)", () -> x.laneOf(0, 8));
        Due.outside("laneOf(1, 0)", () -> x.laneOf(1, 0));
        Due.outside("laneOf(-1, 0)", () -> x.laneOf(-1, 0));
        Due.outside("laneOf(1, 8)", () -> x.laneOf(1, 8));
        Due.outside("laneOf(3, -1)", () -> x.laneOf(3, -1));
        // A follower that is on its way through is not counted any more, though it is not let.
        LorryArms y = gate("v002v002ft28");
        Due.is("laneOf(0, 7)", 0, () -> y.laneOf(0, 7));
        Due.is("vehicle(0, 1, 1)", 20, () -> y.vehicle(0, 1, 1));
        Due.is("vehicle(0, 1, 4)", 0, () -> y.vehicle(0, 1, 4));
    }

    private static void promise8() {
        LorryArms x = gate("v012xfv002xv005fv003t22");
        int[][] want = {{12, 19, 1, 1, 0}, {2, 7, 1, 0, 0}, {5, 5, 0, 1, 0}, {3, -1, 0, 0, 0}};
        for (int k = 0; k < want.length; k++) {
            for (int i = 0; i < 5; i++) {
                int car = k;
                int what = i;
                Due.is("vehicle(0, " + k + ", " + i + ")", want[k][i], () -> x.vehicle(0, car, what));
            }
        }
        Due.illegal("vehicle(0, 0, -1)", () -> x.vehicle(0, 0, -1));
        Due.illegal("vehicle(0, 0, 5)", () -> x.vehicle(0, 0, 5));
        Due.outside("vehicle(0, 4, 0)", () -> x.vehicle(0, 4, 0));
        Due.outside("vehicle(0, -1, 0)", () -> x.vehicle(0, -1, 0));
        Due.outside("vehicle(0, 6, 0)", () -> x.vehicle(0, 6, 0));
        Due.outside("vehicle(0, greatest, 0)", () -> x.vehicle(0, Integer.MAX_VALUE, 0));
        Due.outside("vehicle(1, 0, 0)", () -> x.vehicle(1, 0, 0));
        Due.outside("vehicle(-1, 0, 0)", () -> x.vehicle(-1, 0, 0));
        Due.outside("vehicle(0, 4, 5)", () -> x.vehicle(0, 4, 5));
        Due.outside("vehicle(2, 0, -1)", () -> x.vehicle(2, 0, -1));
    }

    private static void promise9() {
        LorryArms x = gate("v002");
        // Let at 22, over the loop from 26 to 28, held until 32.
        int[] want = new int[40];
        for (int t = 22; t < 32; t++) {
            want[t] = t < 26 ? 1 : t < 29 ? 2 : 3;
        }
        for (int t = 0; t < 40; t++) {
            Due.is("why(0) at " + t, want[t], () -> x.why(0));
            x.run(1);
        }
        // With a broken loop the hold alone is left.
        LorryArms y = gate("b0v002t26");
        Due.is("why(0)", 3, () -> y.why(0));
        // A let vehicle at the arm comes ahead of the hold, a broken arm ahead of both.
        LorryArms z = gate("b0v012v003t60");
        Due.is("why(0)", 4, () -> z.why(0));
        z.mend(0);
        Due.is("why(0)", 1, () -> z.why(0));
        Due.outside("why(1)", () -> z.why(1));
        Due.outside("why(-1)", () -> z.why(-1));
        Due.outside("why(least)", () -> z.why(Integer.MIN_VALUE));
    }

    private static void promise10() {
        LorryArms x = new LorryArms();
        Due.is("setting(0)", 3, () -> x.setting(0));
        Due.is("setting(1)", 12, () -> x.setting(1));
        Due.is("setting(2)", 2, () -> x.setting(2));
        Due.illegal("setting(-1)", () -> x.setting(-1));
        Due.illegal("setting(3)", () -> x.setting(3));
        Due.illegal("setting(least)", () -> x.setting(Integer.MIN_VALUE));
    }
}
