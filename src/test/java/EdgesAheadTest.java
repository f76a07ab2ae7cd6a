import java.math.BigInteger;

/** The edges that the promises 18 to 24 name: a test for each sentence. */
final class EdgesAheadTest {
    private interface On {
        int call(LorryArms x);
    }

    /** The arm of the lane 0 is mended at once, with its height at 3; a vehicle is in the lane 1. */
    private static final String HIT = "Gllb0v012t38v102";

    public static void main(String[] args) {
        nothingChanges();
        promises18And19();
        promises20To22();
        promise23();
        promise24();
        Due.end("EdgesAheadTest");
    }

    private static void promises18And19() {
        promise18Zero();
        promise18FourHundred();
        promise18Never();
        promise18Lane();
        promise19Zero();
        promise19FourHundred();
        promise19Never();
        promise19LaneAndVehicle();
    }

    private static void promises20To22() {
        promise20Length();
        promise20Full();
        promise20Lowest();
        promise20None();
        promise20FourHundred();
        promise21Range();
        promise21OneAndFourHundred();
        promise21InThem();
        promise21Up();
        promise22One();
        promise22FourHundred();
        promise22None();
        promise22Lane();
    }

    private static void promise23() {
        promise23Number();
        promise23Digits();
        promise23ZerosBefore();
        promise23Order();
        promise23Copy();
        promise23Arrive();
        promise23Run();
        promise23Loop();
        promise23Mend();
        promise23Set();
        promise23Height();
        promise23Vehicles();
        promise23Slipped();
        promise23Why();
        promise23OtherGroups();
    }

    private static void promise24() {
        promise24Range();
        promise24WrapsAround();
        promise24LeftOut();
        promise24NoLanes();
        promise24InTheTurns();
    }

    /** Six vehicles without tickets, of which the last one is through, is hit or passes far beyond 400 ticks. */
    private static LorryArms slow(boolean loopBroken, int ticks) {
        LorryArms x = new LorryArms();
        x.lane();
        x.set(1, 60);
        x.loop(0, loopBroken);
        for (int i = 0; i < 6; i++) {
            x.arrive(0, i < 5 ? 4 : 12, true, false);
        }
        Due.go(x, ticks);
        return x;
    }

    /** The first tick at which a number of about() has come to a value, in a slow lane. */
    private static int firstTick(boolean loopBroken, int what, int value) {
        Due.Walk walk = new Due.Walk(() -> slow(loopBroken, 0));
        for (int t = 0; t < 1000; t++) {
            if (walk.at(t).about(what) == value) {
                return t;
            }
        }
        return -1;
    }

    /** What is asked when so many ticks are left up to a tick. */
    private static void left(String name, boolean loopBroken, int end, On call) {
        for (int left : new int[] {1, 2, 60, 61, 399, 400, 401, 402}) {
            LorryArms x = slow(loopBroken, end - left);
            Due.is(name + " with " + left + " ticks left", left > 400 ? -1 : left, () -> call.call(x));
        }
    }

    // ---- what would be

    private static void unchanged(String name, On call) {
        LorryArms x = Due.at(25, "Gllb0v012v002fv112xv003");
        Due.write(x, "Gl");
        x.save(1);
        x.run(1);
        String before = Due.whole(x);
        int first = call.call(x);
        Due.same("the state behind " + name, Due.whole(x), before);
        Due.is(name + " again", first, () -> call.call(x));
        Due.same("the state behind " + name, Due.whole(x), before);
        Due.is("undo() behind " + name, 1, x::undo);
        Due.is("restore(1) behind " + name, 25, () -> x.restore(1));
        Due.notNow("restore(0) behind " + name, () -> x.restore(0));
        Due.is("clearText() behind " + name, 2, x::clearText);
    }

    private static void nothingChanges() {
        Due.by("---- what would be; these and all following methods up to the save slots change nothing.");
        unchanged("emptyIn(0)", x -> x.emptyIn(0));
        unchanged("throughIn(0, 2)", x -> x.throughIn(0, 2));
        unchanged("bestLane(12)", x -> x.bestLane(12));
        for (int what = 0; what <= 4; what++) {
            int w = what;
            unchanged("coming(400, " + what + ")", x -> x.coming(400, w));
        }
        unchanged("hitsIn(1)", x -> x.hitsIn(1));
        unchanged("runScript() of loop, run, set", x -> x.runScript(3, 311002006050200L));
        unchanged("runScript() of arrive, run, mend", x -> x.runScript(3, 110232006040000L));
        unchanged("simulate(3, 60)", x -> x.simulate(3, 60));
    }

    private static void promise18Zero() {
        Due.by("Returns how many ticks have to go by, 0 to 400, until it has no vehicle, if nothing else is done");
        LorryArms x = Due.loaded("Gllv102");
        Due.is("emptyIn(0) of an empty lane", 0, () -> x.emptyIn(0));
        Due.is("emptyIn(1)", 47, () -> x.emptyIn(1));
        x.run(46);
        Due.is("emptyIn(1) at 46", 1, () -> x.emptyIn(1));
        x.run(1);
        Due.is("emptyIn(1) at 47", 0, () -> x.emptyIn(1));
    }

    private static void promise18FourHundred() {
        Due.by("NONE if 400 are not enough.");
        left("emptyIn(0)", false, firstTick(false, 3, 6), x -> x.emptyIn(0));
    }

    private static void promise18Never() {
        Due.by("NONE if 400 are not enough.");
        LorryArms x = Due.at(33, "Gllb0v012v002v102");
        Due.is("emptyIn(0) behind a broken arm", -1, () -> x.emptyIn(0));
        Due.is("emptyIn(1)", 14, () -> x.emptyIn(1));
        LorryArms y = Due.at(33, "Glb0v012");
        Due.is("emptyIn(0) with one beyond the arm", 24, () -> y.emptyIn(0));
    }

    private static void promise18Lane() {
        Due.by("Throws IndexOutOfBoundsException if there is no such lane");
        LorryArms x = Due.loaded("Gll");
        Due.outside("emptyIn(-1)", () -> x.emptyIn(-1));
        Due.is("emptyIn(1)", 0, () -> x.emptyIn(1));
        Due.outside("emptyIn(2)", () -> x.emptyIn(2));
        Due.outside("emptyIn(0) without a lane", () -> new LorryArms().emptyIn(0));
    }

    private static void promise19Zero() {
        Due.by("Returns how many ticks have to go by, 0 to 400, until its last cell is 21 or more, if nothing else is "
                + "done");
        LorryArms x = Due.at(27, "Glv002");
        Due.is("throughIn(0, 0) with the last cell at 20", 1, () -> x.throughIn(0, 0));
        for (int t = 28; t < 47; t++) {
            x.run(1);
            Due.is("throughIn(0, 0) at " + t, 0, () -> x.throughIn(0, 0));
        }
        x.run(1);
        Due.outside("throughIn(0, 0) when it has passed", () -> x.throughIn(0, 0));
    }

    private static void promise19FourHundred() {
        Due.by("NONE if 400 are not enough.");
        int end = firstTick(false, 4, 6);
        left("throughIn() of the last one", false, end, x -> x.throughIn(0, x.laneOf(0, 0) - 1));
    }

    private static void promise19Never() {
        Due.by("NONE if 400 are not enough.");
        LorryArms x = Due.at(33, "Gllv102b0v012v002fv002");
        Due.is("throughIn(0, 0) under a broken arm", 5, () -> x.throughIn(0, 0));
        Due.is("throughIn(0, 1) behind a broken arm", -1, () -> x.throughIn(0, 1));
        Due.is("throughIn(0, 2) behind a broken arm", -1, () -> x.throughIn(0, 2));
        Due.is("throughIn(1, 0)", 0, () -> x.throughIn(1, 0));
    }

    private static void promise19LaneAndVehicle() {
        Due.by("Throws IndexOutOfBoundsException if there is no such lane or vehicle");
        LorryArms x = Due.loaded("Gllv002v102v102");
        Due.outside("throughIn(-1, 0)", () -> x.throughIn(-1, 0));
        Due.outside("throughIn(2, 0)", () -> x.throughIn(2, 0));
        Due.outside("throughIn(0, -1)", () -> x.throughIn(0, -1));
        Due.outside("throughIn(0, 1)", () -> x.throughIn(0, 1));
        Due.outside("throughIn(1, 2)", () -> x.throughIn(1, 2));
        Due.is("throughIn(0, 0)", 28, () -> x.throughIn(0, 0));
    }

    private static void promise20Length() {
        Due.by("Throws IllegalArgumentException if length is out of range");
        LorryArms x = Due.loaded("Gl");
        Due.illegal("bestLane(1)", () -> x.bestLane(1));
        Due.is("bestLane(2)", 0, () -> x.bestLane(2));
        Due.is("bestLane(12)", 0, () -> x.bestLane(12));
        Due.illegal("bestLane(13)", () -> x.bestLane(13));
        Due.illegal("bestLane(13) without a lane", () -> new LorryArms().bestLane(13));
    }

    private static void promise20Full() {
        Due.by("Returns the lane, with fewer than 6 vehicles");
        // The lane 1 is much slower, but has room for a sixth one.
        LorryArms x = Due.loaded("Gllv002v002v002v002v002v112xv112xv112xv112xv112x");
        Due.is("bestLane(2) with five and five", 0, () -> x.bestLane(2));
        x.arrive(0, 2, false, false);
        Due.is("bestLane(2) with six and five", 1, () -> x.bestLane(2));
        x.arrive(1, 12, true, false);
        Due.is("bestLane(2) with six and six", -1, () -> x.bestLane(2));
    }

    private static void promise20Lowest() {
        Due.by("of several the lowest");
        LorryArms x = Due.loaded("Glllv002");
        Due.is("bestLane(5) of two equal ones", 1, () -> x.bestLane(5));
        x.arrive(1, 2, false, false);
        x.arrive(2, 2, false, false);
        Due.is("bestLane(5) of three equal ones", 0, () -> x.bestLane(5));
    }

    private static void promise20None() {
        Due.by("NONE if there is none, or in none within 400 ticks.");
        Due.is("bestLane(2) without a lane", -1, () -> new LorryArms().bestLane(2));
        LorryArms x = Due.at(60, "Gllb0b1v012v112");
        Due.is("bestLane(2) of broken arms", -1, () -> x.bestLane(2));
        x.mend(1);
        Due.is("bestLane(2) of an arm that is mended", 1, () -> x.bestLane(2));
    }

    private static LorryArms slowFive(int ticks) {
        LorryArms x = new LorryArms();
        x.lane();
        x.set(0, 20);
        x.set(1, 60);
        for (int i = 0; i < 5; i++) {
            x.arrive(0, 12, true, false);
        }
        Due.go(x, ticks);
        return x;
    }

    private static void promise20FourHundred() {
        Due.by("NONE if there is none, or in none within 400 ticks.");
        int seen = 0;
        for (int t = 0; t < 40; t++) {
            int best = slowFive(t).bestLane(7);
            int waited = ticksOfTheNext(t);
            seen += waited == 400 || waited == 401 ? 1 : 0;
            Due.is("bestLane(7) of one that is through behind " + waited + " ticks", waited > 400 ? -1 : 0, () -> best);
        }
        int both = seen;
        Due.is("were there 400 and 401 ticks", 2, () -> both);
    }

    private static int ticksOfTheNext(int ticks) {
        Due.Walk walk = new Due.Walk(() -> {
            LorryArms x = slowFive(ticks);
            x.arrive(0, 7, false, false);
            return x;
        });
        for (int t = 1; t < 1000; t++) {
            if (walk.at(t).about(4) == 6) {
                return t;
            }
        }
        return -1;
    }

    private static void promise21Range() {
        Due.by("Throws IllegalArgumentException if n is out of range, or what is not 0 to 4");
        LorryArms x = Due.loaded("Glv002");
        Due.illegal("coming(0, 0)", () -> x.coming(0, 0));
        Due.is("coming(1, 0)", 0, () -> x.coming(1, 0));
        Due.is("coming(400, 0)", 1, () -> x.coming(400, 0));
        Due.illegal("coming(401, 0)", () -> x.coming(401, 0));
        Due.illegal("coming(1, -1)", () -> x.coming(1, -1));
        Due.is("coming(1, 4)", 0, () -> x.coming(1, 4));
        Due.illegal("coming(1, 5)", () -> x.coming(1, 5));
    }

    private static void promise21OneAndFourHundred() {
        Due.by("n: 1 to 400");
        LorryArms x = Due.at(27, "Glv002v002f");
        Due.is("coming(1, 0)", 1, () -> x.coming(1, 0));
        // The last one of a slow lane is through at the end of 400 ticks, and behind 399 not yet.
        int end = firstTick(false, 4, 6);
        LorryArms y = slow(false, end - 400);
        int had = y.about(4);
        Due.is("coming(400, 0)", 6 - had, () -> y.coming(400, 0));
        Due.is("coming(399, 0)", 5 - had, () -> y.coming(399, 0));
        LorryArms z = slow(false, end - 401);
        Due.is("coming(400, 0)", 5 - had, () -> z.coming(400, 0));
    }

    private static void coming(LorryArms x, int n, String want) {
        String got = x.coming(n, 0) + " " + x.coming(n, 1) + " " + x.coming(n, 2) + " " + x.coming(n, 3);
        Due.same("coming(" + n + ", 0 to 3) at " + x.about(1), got, want);
    }

    private static void promise21InThem() {
        Due.by("0: the vehicles that go through in them, being let; 1: those that slip through in them; 2: the hits in "
                + "them; 3: the vehicles in all lanes then");
        // Through at 28 and 38, slipped at 30, hit at 33, gone at 47, 49 and 57.
        LorryArms x = Due.loaded("Gllv002v002fb1v112");
        int[] ticks = {27, 28, 29, 30, 32, 33, 37, 38, 46, 47, 49, 57};
        String[] want = {"0 0 0 3", "1 0 0 3", "1 0 0 3", "1 1 0 3", "1 1 0 3", "1 1 1 3", "1 1 1 3", "2 1 1 3",
            "2 1 1 3", "2 1 1 2", "2 1 1 1", "2 1 1 0"};
        for (int i = 0; i < ticks.length; i++) {
            coming(x, ticks[i], want[i]);
        }
        // What has been by now is none of what is to come.
        int[] from = {28, 30, 33, 38, 57};
        String[] left = {"1 1 1 0", "1 0 1 0", "1 0 0 0", "0 0 0 0", "0 0 0 0"};
        for (int i = 0; i < from.length; i++) {
            coming(Due.at(from[i], "Gllv002v002fb1v112"), 400, left[i]);
        }
    }

    private static void promise21Up() {
        Due.by("4: the ticks in which an arm is up, at the height 4, of all lanes together (behind step 3)");
        // The arm is up from the tick 25 to the tick 32.
        LorryArms x = Due.at(24, "Glllv002v102");
        Due.is("coming(1, 4)", 2, () -> x.coming(1, 4));
        Due.is("coming(8, 4)", 16, () -> x.coming(8, 4));
        Due.is("coming(9, 4)", 16, () -> x.coming(9, 4));
        LorryArms y = Due.at(23, "Glllv002v102");
        Due.is("coming(1, 4) at 23", 0, () -> y.coming(1, 4));
        LorryArms z = Due.at(32, "Glllv002v102");
        Due.is("coming(1, 4) at 32", 0, () -> z.coming(1, 4));
    }

    private static void promise22One() {
        Due.by("Returns in how many ticks, 1 to 400, its arm would hit a vehicle, if its loop was broken now and "
                + "nothing else was done");
        LorryArms x = Due.at(31, "Glv012");
        Due.is("hitsIn(0) at 31", 2, () -> x.hitsIn(0));
        x.run(1);
        Due.is("hitsIn(0) at 32", 1, () -> x.hitsIn(0));
        x.run(4);
        Due.is("hitsIn(0) with the last cell at 19", 1, () -> x.hitsIn(0));
        // Behind the next tick's move the last cell is 21.
        x.run(1);
        Due.is("hitsIn(0) with the last cell at 20", -1, () -> x.hitsIn(0));
    }

    private static void promise22FourHundred() {
        Due.by("NONE if it would not.");
        left("hitsIn(0)", false, firstTick(true, 6, 1), x -> x.hitsIn(0));
        left("hitsIn(0) of a broken loop", true, firstTick(true, 6, 1), x -> x.hitsIn(0));
    }

    private static void promise22None() {
        Due.by("NONE if it would not.");
        LorryArms x = Due.loaded("Glllv007v108b2v212");
        Due.is("hitsIn(0) of a vehicle that is short enough", -1, () -> x.hitsIn(0));
        Due.is("hitsIn(1) of one that is not", 33, () -> x.hitsIn(1));
        x.run(33);
        Due.is("hitsIn(2) of a broken arm", -1, () -> x.hitsIn(2));
        Due.is("hitsIn(0) of an empty lane", -1, () -> Due.loaded("Gl").hitsIn(0));
    }

    private static void promise22Lane() {
        Due.by("Throws IndexOutOfBoundsException if there is no such lane");
        LorryArms x = Due.loaded("Gll");
        Due.outside("hitsIn(-1)", () -> x.hitsIn(-1));
        Due.is("hitsIn(1)", -1, () -> x.hitsIn(1));
        Due.outside("hitsIn(2)", () -> x.hitsIn(2));
    }

    // ---- scripts

    /** Which group fails. */
    private static void script(String gate, int want, int... groups) {
        LorryArms x = Due.loaded(gate);
        long all = 0;
        for (int g : groups) {
            all = all * 100000 + g;
        }
        long script = all;
        Due.is("runScript(" + groups.length + ", " + script + ") of " + gate, want,
                () -> x.runScript(groups.length, script));
    }

    private static void good(String gate, int... groups) {
        for (int group : groups) {
            script(gate, -1, group);
        }
    }

    private static void bad(String gate, int... groups) {
        for (int group : groups) {
            script(gate, 0, group);
        }
    }

    private static void promise23Number() {
        Due.by("Throws IllegalArgumentException if n is out of range, or if script is negative or has more than 5 * n "
                + "digits");
        LorryArms x = Due.loaded("Gl");
        Due.illegal("runScript(0, 0)", () -> x.runScript(0, 0));
        Due.illegal("runScript(4, 0)", () -> x.runScript(4, 0));
        Due.is("runScript(1, 20001)", -1, () -> x.runScript(1, 20001));
        Due.is("runScript(3, 200012000120001)", -1, () -> x.runScript(3, 200012000120001L));
    }

    private static void promise23Digits() {
        Due.by("script: the commands, a number of at most 5 * n digits (0 or more)");
        LorryArms x = Due.loaded("Gl");
        long[] most = {99999L, 9999999999L, 999999999999999L};
        for (int i = 0; i < 3; i++) {
            int n = i + 1;
            long m = most[i];
            Due.is("runScript(" + n + ", 0)", 0, () -> x.runScript(n, 0));
            Due.is("runScript(" + n + ", " + m + ")", 0, () -> x.runScript(n, m));
            Due.illegal("runScript(" + n + ", " + (m + 1) + ")", () -> x.runScript(n, m + 1));
            Due.illegal("runScript(" + n + ", -1)", () -> x.runScript(n, -1));
            Due.illegal("runScript(" + n + ", -20001)", () -> x.runScript(n, -20001));
            Due.illegal("runScript(" + n + ", least)", () -> x.runScript(n, Long.MIN_VALUE));
            Due.illegal("runScript(" + n + ", greatest)", () -> x.runScript(n, Long.MAX_VALUE));
        }
    }

    private static void promise23ZerosBefore() {
        Due.by("the first command is the highest group of the number (with zeros before it, if it has fewer digits).");
        LorryArms x = Due.loaded("Gl");
        Due.is("runScript(1, 20001)", -1, () -> x.runScript(1, 20001));
        Due.is("runScript(2, 20001)", 0, () -> x.runScript(2, 20001));
        Due.is("runScript(3, 20001)", 0, () -> x.runScript(3, 20001));
        Due.is("runScript(3, 2000120001)", 0, () -> x.runScript(3, 2000120001L));
        Due.is("runScript(1, 2001)", 0, () -> x.runScript(1, 2001));
    }

    private static void promise23Order() {
        Due.by("Returns the index, from 0, of the first command that fails; NONE if all succeed.");
        script("Gl", -1, 20001, 20001, 20001);
        script("Gl", 0, 20000, 20001, 20001);
        script("Gl", 1, 20001, 20000, 20001);
        script("Gl", 2, 20001, 20001, 20000);
        script("Gl", 0, 20000, 20000, 20000);
        script("Gl", 1, 20001, 20000, 20000);
        // The commands before the last one have been done by then.
        script("Gl", -1, 10020, 20022, 90001);
        script("Gl", 2, 10020, 20021, 90001);
    }

    private static void promise23Copy() {
        Due.by("Runs a script on a copy of the state.");
        LorryArms x = Due.loaded("Gl");
        for (int i = 0; i < 10; i++) {
            Due.is("runScript(2, 1002070001) time " + i, -1, () -> x.runScript(2, 1002070001L));
        }
        // What a command has done before another one failed is no part of the next script.
        Due.is("runScript(3, 100201002020000)", 2, () -> x.runScript(3, 100201002020000L));
        Due.is("runScript(2, 1002070001)", -1, () -> x.runScript(2, 1002070001L));
    }

    private static void promise23Arrive() {
        Due.by("1 l n n k: arrive(l, nn), with a lost ticket if k is 1 or 3, a follower if k is 2 or 3.");
        good("Gll", 10020, 10021, 10022, 10023, 10120, 11123);
        bad("Gll", 10000, 10010, 10130, 10200, 10990, 12020, 13020, 19020, 10024, 10029);
        bad("G", 10020);
        good("Glv002v002v002v002v002", 10020);
        bad("Glv002v002v002v002v002v002", 10020);
        for (int k = 0; k <= 3; k++) {
            // Alone: let at 22, or without a ticket at 31. Behind another one: a follower slips through.
            script("Gl", k % 2 == 0 ? -1 : 2, 10020 + k, 20022, 90001);
            script("Glv002", k >= 2 ? 2 : -1, 10020 + k, 20060, 80000);
        }
    }

    private static void promise23Run() {
        Due.by("2 0 0 n n: run(nn).");
        good("G", 20001, 20060);
        bad("G", 20000, 20061, 20099, 20101, 21001, 29001, 20901);
        script("Glv002", -1, 20025, 60400);
        script("Glv002", 1, 20024, 60400);
        script("Glv002", -1, 20024, 20001, 60400);
    }

    private static void promise23Loop() {
        Due.by("3 l b 0 0: loop(l, b is 1).");
        good("Gll", 30000, 30100, 31000, 31100);
        bad("Gll", 32000, 39000, 30200, 30900, 30010, 30001, 30110, 30109);
        bad("G", 30000);
        script("Glv012t32", -1, 30100, 20001, 90004);
        script("Glv012t32", -1, 30000, 20001, 90002);
    }

    private static void promise23Mend() {
        Due.by("4 l 0 0 0: mend(l).");
        good(HIT, 40000);
        bad(HIT, 41000, 42000, 49000, 40100, 40010, 40001);
        bad("Gllb0v012t37", 40000);
        bad("G", 40000);
        script(HIT, 1, 40000, 40000);
    }

    private static void promise23Set() {
        Due.by("5 s v v 0: set(s, vv).");
        good("G", 50010, 50200, 51010, 51600, 52000, 52200);
        bad("G", 50000, 50210, 51000, 51610, 52210, 53010, 59010, 50011, 50019, 50990);
        script("Glv002", -1, 50010, 20020, 90001);
        script("Glv002", 2, 50020, 20020, 90001);
    }

    private static void promise23Height() {
        Due.by("6 l h 0 0: succeeds if the height of the arm of l is h.");
        for (int tick = 0; tick <= 40; tick++) {
            LorryArms x = Due.at(tick, "Glv002");
            for (int h = 0; h <= 9; h++) {
                int group = 60000 + 100 * h;
                Due.is("runScript(1, " + group + ") at " + tick, x.laneOf(0, 1) == h ? -1 : 0,
                        () -> x.runScript(1, group));
            }
        }
        good(HIT, 60300, 61000);
        bad(HIT, 60000, 60200, 60400, 61100, 62000, 69000, 60310, 60301);
        bad("G", 60000);
    }

    private static void promise23Vehicles() {
        Due.by("7 l 0 0 n: succeeds if at most n vehicles are in the lane l.");
        String gate = "Gll";
        for (int count = 0; count <= 6; count++) {
            for (int n = 0; n <= 9; n++) {
                script(gate, count <= n ? -1 : 0, 71000 + n);
                script(gate, -1, 70000 + n);
            }
            gate = gate + "v102";
        }
        bad("Gll", 72000, 79009, 70109, 70019, 70909, 70099);
        bad("G", 70009);
    }

    private static void promise23Slipped() {
        Due.by("8 0 0 n n: succeeds if at most nn vehicles slipped through so far.");
        good("G", 80000, 80009, 80010, 80099);
        bad("G", 80100, 81000, 80900, 89099);
        good("Glv002v002ft30", 80001, 80010);
        bad("Glv002v002ft30", 80000);
        good("Glv002v002ft29", 80000);
        String ten = "Glv002v002fv002fv002fv002fv002ft60v002v002fv002fv002fv002fv002ft60";
        good(ten, 80010, 80099);
        bad(ten, 80000, 80009);
        good(ten + "v002v002ft60", 80011, 80020);
        bad(ten + "v002v002ft60", 80010, 80001);
    }

    private static void promise23Why() {
        Due.by("9 l 0 0 w: succeeds if why(l) is w.");
        String[] gates = {"Gl", "Glv002t22", "Glv002t26", "Glv002t29", "Glb0v012t33"};
        for (int why = 0; why <= 4; why++) {
            for (int w = 0; w <= 9; w++) {
                script(gates[why], why == w ? -1 : 0, 90000 + w);
            }
        }
        bad("Gl", 91000, 92000, 99000, 90100, 90010, 90900);
        bad("G", 90000);
    }

    /** Every group there is, with the rules of the document written as patterns. */
    private static void promise23OtherGroups() {
        Due.by("commands with lanes that do not exist fail, and so does any other group (also one with another digit "
                + "where a 0 is written, or a b above 1, or a k above 3).");
        LorryArms x = Due.loaded(HIT);
        for (int i = 0; i < 100000; i++) {
            int group = i;
            if (group % 400 == 0) {
                x = Due.loaded(HIT);
            }
            LorryArms y = x;
            Due.is("runScript(1, " + group + ")", succeeds(String.format("%05d", group)) ? -1 : 0,
                    () -> y.runScript(1, group));
        }
    }

    private static boolean succeeds(String group) {
        String length = "(0[2-9]|1[0-2])";
        String all = "1[01]" + length + "[0-3]|200(0[1-9]|[1-5][0-9]|60)|3[01][01]00|40000"
                + "|50(0[1-9]|1[0-9]|20)0|51(0[1-9]|[1-5][0-9]|60)0|52([01][0-9]|20)0"
                + "|60300|61000|7[01]00[1-9]|800[0-9][0-9]|90004|91000";
        return group.matches(all);
    }

    // ---- simulations

    private static void promise24Range() {
        Due.by("Throws IllegalArgumentException if m is out of range");
        LorryArms x = Due.loaded("Glll");
        Due.illegal("simulate(1, 0)", () -> x.simulate(1, 0));
        Due.illegal("simulate(1, -1)", () -> x.simulate(1, -1));
        Due.illegal("simulate(1, 61)", () -> x.simulate(1, 61));
        Due.is("simulate(1, 1)", turns("Glll", 1, 1), () -> x.simulate(1, 1));
        Due.is("simulate(1, 60)", turns("Glll", 1, 60), () -> x.simulate(1, 60));
    }

    private static void simulated(String gate, long seed, int m) {
        LorryArms x = Due.loaded(gate);
        Due.is("simulate(" + seed + ", " + m + ") of " + gate, turns(gate, seed, m), () -> x.simulate(seed, m));
    }

    private static void promise24WrapsAround() {
        Due.by("Each turn first replaces x by x * 6364136223846793005L + 1442695040888963407L (with long overflow), "
                + "and r = (int) (x >>> 33) is computed.");
        long[] seeds = {Long.MIN_VALUE, Long.MIN_VALUE + 1, -1L << 32, -1, 0, 1, 1L << 31, 1L << 33, Long.MAX_VALUE - 1,
            Long.MAX_VALUE};
        for (long seed : seeds) {
            for (int m = 1; m <= 60; m++) {
                simulated("Glllv012v102v202fb0b1b2t10", seed, m);
            }
        }
    }

    private static void promise24LeftOut() {
        Due.by("What would throw an exception is left out.");
        // Full lanes, lanes that are not there, arms that are whole or have a vehicle under them.
        String[] gates = {"G", "Gl", "Gll", "Glllv002v002v002v002v002v002v112v112v112v112v112v112", "Glb0v012t33",
            "Gllb0b1v012v112v002ft35"};
        for (String gate : gates) {
            for (long seed = 0; seed < 40; seed++) {
                simulated(gate, seed * 0x2545F4914F6CDD1DL, 60);
            }
        }
    }

    private static void promise24NoLanes() {
        Due.by("What would throw an exception is left out.");
        LorryArms x = new LorryArms();
        for (long seed = -20; seed < 20; seed++) {
            long s = seed;
            Due.is("simulate(" + s + ", 60) without lanes", 0, () -> x.simulate(s, 60));
        }
        Due.is("about(1)", 0, () -> x.about(1));
    }

    private static void promise24InTheTurns() {
        Due.by("Returns 10000 * (the hits in the turns) + 100 * (those who slipped through in the turns) + (those that "
                + "passed in the turns, or 99 if they are more).");
        String gate = "Glllb0b1v012v112v002fv002v002fv202v202ft60t60m0m1v002v002f";
        LorryArms x = Due.loaded(gate);
        Due.same("before", x.about(6) + " " + x.about(5) + " " + x.about(3), "2 1 4");
        int all = 0;
        for (long seed = 0; seed < 60; seed++) {
            simulated(gate, seed * 0x2545F4914F6CDD1DL, (int) (1 + seed));
            int told = x.simulate(seed * 0x2545F4914F6CDD1DL, 60);
            all |= (told >= 10000 ? 1 : 0) + (told / 100 % 100 > 0 ? 2 : 0) + (told % 100 > 0 ? 4 : 0);
        }
        int seen = all;
        Due.is("were there hits, slips and passes", 7, () -> seen);
    }

    /** The turns, by the calls of the face, with x as a number without bounds that is cut to 64 bits. */
    private static int turns(String gate, long seed, int m) {
        LorryArms x = Due.loaded(gate);
        int hits = x.about(6);
        int slipped = x.about(5);
        int passed = x.about(3);
        BigInteger whole = BigInteger.ONE.shiftLeft(64);
        BigInteger state = BigInteger.valueOf(seed).mod(whole);
        for (int i = 0; i < m; i++) {
            state = state.multiply(new BigInteger("6364136223846793005")).add(new BigInteger("1442695040888963407"))
                    .mod(whole);
            turn(x, state.shiftRight(33).intValueExact());
        }
        return 10000 * (x.about(6) - hits) + 100 * (x.about(5) - slipped) + Math.min(99, x.about(3) - passed);
    }

    private static void turn(LorryArms x, int r) {
        int q = r / 8;
        int kind = r % 8;
        try {
            if (kind < 3) {
                x.arrive(q % 3, 2 + q / 4 % 11, q / 64 % 8 == 0, q / 512 % 4 == 0);
            } else if (kind == 3) {
                x.loop(q % 3, q / 4 % 4 == 0);
            } else if (kind == 4) {
                x.mend(q % 3);
            } else {
                x.run(1 + q % 20);
            }
        } catch (IllegalStateException | IndexOutOfBoundsException e) {
            // The document leaves it out.
        }
    }
}
