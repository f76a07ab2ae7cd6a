/** The edges that the sections LANES, A TICK and SETTINGS name: a test for each sentence. */
final class EdgesOfLanesTest {
    public static void main(String[] args) {
        lanes();
        moves();
        checks();
        arms();
        settings();
        Due.end("EdgesOfLanesTest");
    }

    private static void lanes() {
        calls512();
        threeLanes();
        cells();
        armOverCell20();
        armOverCell20AtTheRear();
        stopAtCell19();
        sixVehicles();
        firstIsFurthestOn();
        lengths();
        cellsAheadAndBehind();
        notLetAtFirst();
        newFront();
        heights();
        holdAtFirst();
        brokenKeepsHeight();
        learnedAtFirst();
    }

    private static void moves() {
        ticksFromZero();
        gapOfOne();
        gapBehindOneThatMoved();
        firstHasNoneAhead();
        armMustBeUp();
        followerNeedsTheArmToo();
        othersNeedNoArm();
        passesBehindCell39();
    }

    private static void checks() {
        checkBegins();
        checkEnds();
        checkBeyondTheSetting();
        checkOfLostTicketBeyondTheSetting();
        holdRoundedDown();
        holdIsReplaced();
        checkIsOver();
    }

    private static void arms() {
        brokenArmDoesNothing();
        upForLetVehicle();
        upForCoveredLoop();
        notUpForFrontAt19();
        upForHold();
        heightHasEnds();
        holdHasAnEnd();
        hitBelowFour();
        hitOnce();
        throughAtCell21();
        learnsTowardsZero();
        slippedTeachesNothing();
    }

    private static void settings() {
        settingRanges();
        checkOfOneAndTwentyTicks();
        lostCheckOfOneAndSixtyTicks();
        addedHoldOfZeroAndTwenty();
    }

    private static void front(LorryArms x, int k, int want) {
        Due.is("the front of " + k + " at the tick " + x.about(1), want, () -> x.vehicle(0, k, 1));
    }

    private static void lane(LorryArms x, int what, int want) {
        Due.is("laneOf(0, " + what + ") at the tick " + x.about(1), want, () -> x.laneOf(0, what));
    }

    private static void hits(LorryArms x, int want) {
        Due.is("the hits at the tick " + x.about(1), want, () -> x.about(6));
    }

    private static void let(LorryArms x, int k, int want) {
        Due.is("whether " + k + " is let at the tick " + x.about(1), want, () -> x.vehicle(0, k, 4));
    }

    // ---- LANES

    private static void calls512() {
        Due.by("An object is used for at most 512 calls after it has been made");
        LorryArms x = new LorryArms();
        x.lane();
        for (int i = 0; i < 510; i++) {
            x.run(60);
        }
        Due.is("the 512th call, about(1)", 510 * 60, () -> x.about(1));
    }

    private static void threeLanes() {
        Due.by("There are at most 3 lanes, numbered from 0.");
        LorryArms x = new LorryArms();
        Due.outside("why(0) without a lane", () -> x.why(0));
        for (int l = 0; l < 3; l++) {
            int number = l;
            Due.is("lane()", number, x::lane);
            Due.is("why(" + l + ")", 0, () -> x.why(number));
            Due.outside("why(" + (l + 1) + ")", () -> x.why(number + 1));
        }
        Due.notNow("a fourth lane()", x::lane);
        Due.outside("why(-1)", () -> x.why(-1));
        Due.is("about(0)", 3, () -> x.about(0));
    }

    private static void cells() {
        Due.by("A lane has cells, 0 to 39");
        // A last cell of 39 is still one of the lane, 40 is not.
        LorryArms x = Due.at(46, "Glv002");
        front(x, 0, 40);
        x.run(1);
        Due.is("the vehicles", 0, () -> x.about(2));
        LorryArms y = Due.at(56, "Glv012");
        front(y, 0, 50);
        y.run(1);
        Due.is("the vehicles", 0, () -> y.about(2));
    }

    private static void armOverCell20() {
        Due.by("the arm is over the cell 20");
        LorryArms x = Due.at(32, "Glb0v002t12v002f");
        front(x, 1, 19);
        hits(x, 0);
        x.run(1);
        front(x, 1, 20);
        hits(x, 1);
        // With its front at 19 a vehicle stands ahead of the arm that is down.
        LorryArms y = Due.at(21, "Glv002");
        front(y, 0, 19);
        lane(y, 1, 0);
        hits(y, 0);
    }

    private static void armOverCell20AtTheRear() {
        Due.by("the arm is over the cell 20");
        // The arm comes down at the tick 33: the last cell of 8 is 20 then, that of 7 is 21.
        LorryArms x = Due.at(33, "Glb0v008");
        front(x, 0, 27);
        hits(x, 1);
        LorryArms y = Due.at(33, "Glb0v007");
        front(y, 0, 27);
        hits(y, 0);
    }

    private static void stopAtCell19() {
        Due.by("a vehicle that is not let stops with its front at the cell 19.");
        LorryArms x = new LorryArms();
        x.lane();
        x.set(0, 20);
        x.arrive(0, 7, false, false);
        x.run(19);
        front(x, 0, 18);
        for (int t = 20; t <= 38; t++) {
            x.run(1);
            front(x, 0, 19);
            let(x, 0, 0);
        }
    }

    private static void sixVehicles() {
        Due.by("A lane has at most 6 vehicles, from the first one on, the one that is furthest on.");
        LorryArms x = Due.loaded("Gll");
        for (int i = 1; i <= 6; i++) {
            Due.is("arrive() number " + i, i, () -> x.arrive(0, 2, false, false));
        }
        Due.notNow("a seventh arrive()", () -> x.arrive(0, 2, false, false));
        lane(x, 0, 6);
        Due.is("arrive() in another lane", 1, () -> x.arrive(1, 2, false, false));
        // Nothing has passed behind 46 ticks; at 47 there is room again.
        x.run(46);
        Due.notNow("a seventh arrive() at 46", () -> x.arrive(0, 2, false, false));
        x.run(1);
        Due.is("arrive() at 47", 6, () -> x.arrive(0, 2, false, false));
        Due.notNow("a seventh arrive() at 47", () -> x.arrive(0, 2, false, false));
    }

    private static void firstIsFurthestOn() {
        Due.by("A lane has at most 6 vehicles, from the first one on, the one that is furthest on.");
        Due.Walk walk = new Due.Walk(() -> Due.loaded("Glv002v003v004v005v006v007"));
        for (int t = 0; t <= 90; t++) {
            LorryArms x = walk.at(t);
            int gone = 6 - x.laneOf(0, 0);
            for (int k = 0; k < 6 - gone; k++) {
                int car = k;
                Due.is("the length of " + k + " at " + t, 2 + gone + k, () -> x.vehicle(0, car, 0));
                int ahead = k == 0 ? 1000 : x.vehicle(0, k - 1, 1) - x.vehicle(0, k - 1, 0) + 1;
                Due.is("is " + k + " behind the one ahead at " + t, 1, () -> x.vehicle(0, car, 1) < ahead ? 1 : 0);
            }
        }
        Due.is("have some passed", 1, () -> walk.at(90).about(3) > 3 ? 1 : 0);
    }

    private static void lengths() {
        Due.by("A vehicle has a length of 2 to 12 cells");
        LorryArms x = Due.loaded("Gl");
        Due.illegal("arrive(0, 1, ..)", () -> x.arrive(0, 1, false, false));
        Due.is("arrive(0, 2, ..)", 1, () -> x.arrive(0, 2, false, false));
        Due.is("arrive(0, 12, ..)", 2, () -> x.arrive(0, 12, false, false));
        Due.illegal("arrive(0, 13, ..)", () -> x.arrive(0, 13, false, false));
        Due.is("the shortest", 2, () -> x.vehicle(0, 0, 0));
        Due.is("the longest", 12, () -> x.vehicle(0, 1, 0));
    }

    private static void cellsAheadAndBehind() {
        Due.by("it covers as many cells from its front backwards (numbers below 0 are ahead of the lane, above 39 "
                + "behind it).");
        LorryArms x = Due.loaded("Glv012v012v012v012v012v012");
        for (int k = 0; k < 6; k++) {
            front(x, k, -1 - 13 * k);
        }
        // The front of the first one is 50 when its last cell is 39, and then there is none above it.
        LorryArms y = Due.at(45, "Glv012");
        front(y, 0, 39);
        for (int t = 46; t <= 56; t++) {
            y.run(1);
            front(y, 0, t - 6);
        }
        y.run(1);
        Due.outside("vehicle(0, 0, 1) at 57", () -> y.vehicle(0, 0, 1));
    }

    private static void notLetAtFirst() {
        Due.by("it is let, or not (at first).");
        // In a row that a vehicle has left that was let, the next one is not.
        LorryArms x = Due.at(60, "Glv002");
        x.arrive(0, 2, false, false);
        let(x, 0, 0);
    }

    private static void newFront() {
        Due.by("its front is -1, or, if that is less, the last cell of the last vehicle less 2.");
        int[] want = {-4, -3, -2, -1, -1, -1};
        for (int t = 0; t < want.length; t++) {
            LorryArms x = Due.at(t, "Glv002");
            x.arrive(0, 5, false, false);
            front(x, 1, want[t]);
            front(x, 0, t - 1);
        }
        LorryArms empty = Due.loaded("Glv012");
        front(empty, 0, -1);
    }

    private static void heights() {
        Due.by("The arm of a lane has a height, 0 (down, at first) to 4 (up).");
        LorryArms x = Due.loaded("Gl");
        lane(x, 1, 0);
        x.run(1);
        lane(x, 1, 0);
        LorryArms y = Due.at(25, "Glv012");
        for (int t = 25; t <= 38; t++) {
            lane(y, 1, 4);
            y.run(1);
        }
    }

    private static void holdAtFirst() {
        Due.by("a hold that is left, at first 0");
        LorryArms x = Due.loaded("Gl");
        lane(x, 2, 0);
        LorryArms y = Due.at(21, "Glv012");
        lane(y, 2, 0);
    }

    private static void brokenKeepsHeight() {
        Due.by("it can be broken itself, and keeps its height then.");
        LorryArms x = Due.at(33, "Glb0v012");
        for (int t = 33; t <= 60; t++) {
            lane(x, 1, 3);
            lane(x, 5, 1);
            x.run(1);
        }
    }

    private static void learnedAtFirst() {
        Due.by("A lane has learned a number of ticks in eighths, at first 48.");
        LorryArms x = Due.at(37, "Glv012");
        lane(x, 3, 48);
        x.run(1);
        lane(x, 3, 60);
        x.lane();
        Due.is("what a lane that comes later has learned", 48, () -> x.laneOf(1, 3));
    }

    // ---- A TICK: 1

    private static void ticksFromZero() {
        Due.by("Ticks are counted from 0.");
        LorryArms x = new LorryArms();
        Due.is("about(1)", 0, () -> x.about(1));
        x.run(1);
        Due.is("about(1)", 1, () -> x.about(1));
        x.run(60);
        Due.is("about(1)", 61, () -> x.about(1));
    }

    private static void gapOfOne() {
        Due.by("the front of a vehicle goes to the next cell if the last cell of the one ahead of it (if there is one) "
                + "is greater than that next cell by 1 or more");
        // The first one waits with its last cell at 8 from the tick 20 to 25: the second one comes up to 7.
        LorryArms x = Due.at(20, "Glv012v002");
        front(x, 0, 19);
        front(x, 1, 6);
        for (int t = 21; t <= 25; t++) {
            x.run(1);
            front(x, 0, 19);
            front(x, 1, 7);
        }
    }

    private static void gapBehindOneThatMoved() {
        Due.by("(as it stands then, having moved or not)");
        LorryArms x = Due.at(25, "Glv012v002v003");
        front(x, 0, 19);
        front(x, 1, 7);
        front(x, 2, 5);
        x.run(1);
        front(x, 0, 20);
        front(x, 1, 8);
        front(x, 2, 6);
    }

    private static void firstHasNoneAhead() {
        Due.by("(if there is one)");
        LorryArms x = Due.loaded("Glv002");
        for (int t = 1; t <= 20; t++) {
            x.run(1);
            front(x, 0, t - 1);
        }
    }

    private static void armMustBeUp() {
        Due.by("But a vehicle whose front is 19 moves only if the height of the arm is 4, and it is let, or is a "
                + "follower.");
        LorryArms x = Due.at(24, "Glv002");
        let(x, 0, 1);
        lane(x, 1, 3);
        x.run(1);
        front(x, 0, 19);
        lane(x, 1, 4);
        x.run(1);
        front(x, 0, 20);
        // With the arm up, one that is neither let nor a follower stays.
        LorryArms y = Due.at(27, "Glv002v002");
        front(y, 1, 19);
        lane(y, 1, 4);
        y.run(1);
        front(y, 1, 19);
    }

    private static void followerNeedsTheArmToo() {
        Due.by("But a vehicle whose front is 19 moves only if the height of the arm is 4, and it is let, or is a "
                + "follower.");
        LorryArms x = Due.at(33, "Glv002t13v002f");
        front(x, 1, 19);
        lane(x, 1, 3);
        let(x, 1, 0);
        x.run(1);
        front(x, 1, 19);
        LorryArms y = Due.at(32, "Glv002t12v002f");
        front(y, 1, 19);
        lane(y, 1, 4);
        let(y, 1, 0);
        y.run(1);
        front(y, 1, 20);
    }

    private static void othersNeedNoArm() {
        Due.by("But a vehicle whose front is 19 moves only if the height of the arm is 4, and it is let, or is a "
                + "follower.");
        LorryArms x = Due.at(19, "Glv002");
        front(x, 0, 18);
        lane(x, 1, 0);
        x.run(1);
        front(x, 0, 19);
        LorryArms y = Due.at(33, "Glb0v002t12v002f");
        front(y, 1, 20);
        lane(y, 1, 3);
        y.run(1);
        front(y, 1, 21);
    }

    private static void passesBehindCell39() {
        Due.by("A vehicle whose last cell is greater than 39 then has passed, and is gone.");
        LorryArms x = Due.at(46, "Glv002v003");
        lane(x, 0, 2);
        Due.is("passed at 46", 0, () -> x.about(3));
        front(x, 0, 40);
        x.run(1);
        lane(x, 0, 1);
        Due.is("passed at 47", 1, () -> x.about(3));
        Due.is("the length of the first one", 3, () -> x.vehicle(0, 0, 0));
        Due.outside("vehicle(0, 1, 0)", () -> x.vehicle(0, 1, 0));
    }

    // ---- A TICK: 2

    private static void checkBegins() {
        Due.by("the check of it goes on by 1 tick (the first such tick begins it)");
        LorryArms x = Due.at(19, "Glv002x");
        lane(x, 6, 0);
        for (int t = 20; t <= 30; t++) {
            x.run(1);
            lane(x, 6, t - 19);
        }
    }

    private static void checkEnds() {
        Due.by("if it has gone on for setting 0 ticks or more, with a lost ticket for setting 1 ticks or more, the "
                + "vehicle is let");
        LorryArms x = Due.at(21, "Glv002");
        lane(x, 6, 2);
        let(x, 0, 0);
        x.run(1);
        lane(x, 6, 0);
        let(x, 0, 1);
        LorryArms y = Due.at(30, "Glv002x");
        lane(y, 6, 11);
        let(y, 0, 0);
        Due.is("lost tickets", 0, () -> y.about(9));
        y.run(1);
        lane(y, 6, 0);
        let(y, 0, 1);
        Due.is("lost tickets", 1, () -> y.about(9));
    }

    private static void checkBeyondTheSetting() {
        Due.by("if it has gone on for setting 0 ticks or more, with a lost ticket for setting 1 ticks or more, the "
                + "vehicle is let");
        LorryArms x = Due.loaded("Glv002");
        x.set(0, 20);
        x.run(29);
        lane(x, 6, 10);
        x.set(0, 2);
        lane(x, 6, 10);
        let(x, 0, 0);
        x.run(1);
        let(x, 0, 1);
    }

    private static void checkOfLostTicketBeyondTheSetting() {
        Due.by("if it has gone on for setting 0 ticks or more, with a lost ticket for setting 1 ticks or more, the "
                + "vehicle is let");
        LorryArms x = Due.loaded("Glv002x");
        x.run(29);
        lane(x, 6, 10);
        x.set(1, 2);
        x.set(0, 20);
        lane(x, 6, 10);
        let(x, 0, 0);
        x.run(1);
        let(x, 0, 1);
    }

    private static void holdRoundedDown() {
        Due.by("the hold is the learned number divided by 8, rounded down, and setting 2, together.");
        // 60 eighths are 7 and a half.
        LorryArms x = Due.at(81, "Glv012t60v002");
        lane(x, 3, 60);
        lane(x, 2, 0);
        x.run(1);
        lane(x, 2, 9);
    }

    private static void holdIsReplaced() {
        Due.by("the hold is the learned number divided by 8, rounded down, and setting 2, together.");
        // At 28, 4 ticks are left; at 29 the second vehicle is let, and one of 40 / 8 + 2 ticks goes by.
        LorryArms x = Due.at(28, "Glv002v002");
        lane(x, 2, 4);
        lane(x, 3, 40);
        x.run(1);
        lane(x, 2, 6);
    }

    private static void checkIsOver() {
        Due.by("(A check that is not ended when the vehicle goes on, as a follower, is over.)");
        LorryArms x = Due.at(27, "Glv002v002fv002");
        lane(x, 6, 1);
        x.run(1);
        front(x, 1, 20);
        lane(x, 6, 0);
        x.run(1);
        front(x, 2, 19);
        lane(x, 6, 1);
        x.run(1);
        lane(x, 6, 2);
        let(x, 2, 0);
        x.run(1);
        let(x, 2, 1);
    }

    // ---- A TICK: 3 to 5

    private static void brokenArmDoesNothing() {
        Due.by("The arm, if it is not broken (otherwise nothing of this is done, and the hold stays)");
        LorryArms x = Due.at(60, "Glb0v012v003");
        for (int i = 0; i < 20; i++) {
            lane(x, 1, 3);
            lane(x, 2, 9);
            front(x, 0, 19);
            let(x, 0, 1);
            x.run(1);
        }
    }

    private static void upForLetVehicle() {
        Due.by("it should be up if there is a vehicle that is let, and whose front is 19 or less");
        LorryArms x = Due.at(22, "Glb0v002");
        for (int t = 22; t <= 25; t++) {
            front(x, 0, 19);
            lane(x, 1, t - 21);
            Due.is("why(0) at " + t, 1, () -> x.why(0));
            x.run(1);
        }
        front(x, 0, 20);
        Due.is("why(0) with the front at 20", 3, () -> x.why(0));
    }

    private static void upForCoveredLoop() {
        Due.by("or if its loop is whole, and a vehicle covers the cell 19, 20 or 21, and its front is 20 or more");
        // The front is 20, the hold is over: the loop alone holds the arm up.
        LorryArms x = Due.at(33, "Glv002t12v002f");
        front(x, 1, 20);
        lane(x, 2, 0);
        lane(x, 1, 4);
        Due.is("why(0)", 2, () -> x.why(0));
        LorryArms y = Due.at(33, "Glb0v002t12v002f");
        front(y, 1, 20);
        lane(y, 1, 3);
        // The last cell is 21 at the tick 38, and 22 at 39.
        LorryArms z = Due.at(38, "Glv012");
        front(z, 0, 32);
        lane(z, 2, 0);
        lane(z, 1, 4);
        Due.is("why(0)", 2, () -> z.why(0));
        z.run(1);
        lane(z, 1, 3);
        Due.is("why(0)", 0, () -> z.why(0));
    }

    private static void notUpForFrontAt19() {
        Due.by("or if its loop is whole, and a vehicle covers the cell 19, 20 or 21, and its front is 20 or more");
        LorryArms x = Due.at(20, "Glv012x");
        for (int t = 20; t <= 30; t++) {
            front(x, 0, 19);
            lane(x, 1, 0);
            Due.is("why(0) at " + t, 0, () -> x.why(0));
            x.run(1);
        }
    }

    private static void upForHold() {
        Due.by("or if the hold is above 0.");
        LorryArms x = Due.at(31, "Glb0v002");
        lane(x, 2, 1);
        lane(x, 1, 4);
        Due.is("why(0)", 3, () -> x.why(0));
        x.run(1);
        lane(x, 2, 0);
        lane(x, 1, 4);
        Due.is("why(0)", 0, () -> x.why(0));
        x.run(1);
        lane(x, 1, 3);
    }

    private static void heightHasEnds() {
        Due.by("its height becomes 1 greater, at most 4, otherwise 1 less, not less than 0.");
        int[] want = {0, 1, 2, 3, 4, 4, 4, 4, 4, 4, 4, 4, 3, 2, 1, 0, 0, 0};
        LorryArms x = Due.at(21, "Glv002");
        for (int i = 0; i < want.length; i++) {
            lane(x, 1, want[i]);
            x.run(1);
        }
    }

    private static void holdHasAnEnd() {
        Due.by("If its height is 4 behind that, the hold becomes 1 less, not less than 0.");
        int[] want = {0, 8, 8, 8, 7, 6, 5, 4, 3, 2, 1, 0, 0, 0, 0, 0, 0, 0, 0, 0};
        LorryArms x = Due.at(21, "Glv012");
        for (int i = 0; i < want.length; i++) {
            lane(x, 2, want[i]);
            x.run(1);
        }
    }

    private static void hitBelowFour() {
        Due.by("If a vehicle covers the cell 20, and the height of the arm is less than 4, the arm has hit it");
        LorryArms x = Due.at(32, "Glb0v012");
        lane(x, 1, 4);
        hits(x, 0);
        lane(x, 5, 0);
        x.run(1);
        lane(x, 1, 3);
        hits(x, 1);
        lane(x, 5, 1);
    }

    private static void hitOnce() {
        Due.by("(A broken arm hits nothing more.)");
        LorryArms x = Due.at(33, "Glb0v012");
        for (int t = 33; t <= 60; t++) {
            hits(x, 1);
            x.run(1);
        }
        // Mended, it is one that hits again.
        x.mend(0);
        x.arrive(0, 12, false, false);
        x.run(60);
        hits(x, 2);
    }

    private static void throughAtCell21() {
        Due.by("If a vehicle's last cell is 21 by this tick's move, it has gone through");
        LorryArms x = Due.at(26, "Glv002");
        int[] want = {0, 1, 0, 0};
        for (int i = 0; i < want.length; i++) {
            Due.is("run(1) at " + (26 + i), want[i], () -> x.run(1));
        }
        LorryArms y = Due.at(36, "Glv012");
        for (int i = 0; i < want.length; i++) {
            Due.is("run(1) at " + (36 + i), want[i], () -> y.run(1));
        }
    }

    private static void learnsTowardsZero() {
        Due.by("the learned number becomes greater by (8 times its length, less the learned number) divided by 4 "
                + "(towards 0)");
        // 16 - 60 = -44, 16 - 49 = -33, 16 - 41 = -25, 24 - 35 = -11, 96 - 33 = 63.
        int[] lengths = {12, 2, 2, 2, 3, 12};
        int[] want = {60, 49, 41, 35, 33, 48};
        LorryArms x = Due.loaded("Gl");
        for (int i = 0; i < lengths.length; i++) {
            x.arrive(0, lengths[i], false, false);
            x.run(60);
            lane(x, 3, want[i]);
        }
        // 56 - 48 = 8 makes 50; 48 - 50 = -2 is less than a whole one.
        LorryArms y = Due.at(60, "Glv007");
        lane(y, 3, 50);
        y.arrive(0, 6, false, false);
        y.run(60);
        lane(y, 3, 50);
    }

    private static void slippedTeachesNothing() {
        Due.by("otherwise it has slipped through.");
        LorryArms x = Due.at(39, "Glv002v012f");
        lane(x, 3, 40);
        Due.is("slipped at 39", 0, () -> x.about(5));
        Due.is("run(1)", 1, () -> x.run(1));
        lane(x, 3, 40);
        Due.is("slipped at 40", 1, () -> x.about(5));
        Due.is("through at 40", 1, () -> x.about(4));
    }

    // ---- SETTINGS

    private static void settingRanges() {
        Due.by("0: the ticks of a check, 1 to 20, at first 3; 1: those with a lost ticket, 1 to 60, at first 12; "
                + "2: what is added to a hold, 0 to 20, at first 2.");
        int[] least = {1, 1, 0};
        int[] most = {20, 60, 20};
        int[] first = {3, 12, 2};
        LorryArms x = new LorryArms();
        for (int i = 0; i < 3; i++) {
            int what = i;
            Due.is("setting(" + i + ") at first", first[i], () -> x.setting(what));
            Due.illegal("set(" + i + ", least - 1)", () -> x.set(what, least[what] - 1));
            Due.illegal("set(" + i + ", most + 1)", () -> x.set(what, most[what] + 1));
            Due.is("set(" + i + ", least)", first[i], () -> x.set(what, least[what]));
            Due.is("set(" + i + ", most)", least[i], () -> x.set(what, most[what]));
            Due.is("setting(" + i + ")", most[i], () -> x.setting(what));
        }
    }

    private static LorryArms with(int what, int v, String gate, int ticks) {
        LorryArms x = Due.loaded(gate);
        x.set(what, v);
        x.run(Math.min(ticks, 40));
        if (ticks > 40) {
            x.run(ticks - 40);
        }
        return x;
    }

    private static void checkOfOneAndTwentyTicks() {
        Due.by("0: the ticks of a check, 1 to 20, at first 3");
        let(with(0, 1, "Glv002", 19), 0, 0);
        let(with(0, 1, "Glv002", 20), 0, 1);
        let(with(0, 20, "Glv002", 38), 0, 0);
        let(with(0, 20, "Glv002", 39), 0, 1);
        let(with(0, 1, "Glv002x", 20), 0, 0);
    }

    private static void lostCheckOfOneAndSixtyTicks() {
        Due.by("1: those with a lost ticket, 1 to 60, at first 12");
        let(with(1, 1, "Glv002x", 19), 0, 0);
        let(with(1, 1, "Glv002x", 20), 0, 1);
        let(with(1, 60, "Glv002x", 78), 0, 0);
        let(with(1, 60, "Glv002x", 79), 0, 1);
        let(with(1, 1, "Glv002", 20), 0, 0);
    }

    private static void addedHoldOfZeroAndTwenty() {
        Due.by("2: what is added to a hold, 0 to 20, at first 2.");
        lane(with(2, 0, "Glv002", 22), 2, 6);
        lane(with(2, 20, "Glv002", 22), 2, 26);
    }
}
