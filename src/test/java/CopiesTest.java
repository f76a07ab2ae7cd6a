/** Promises 23 to 26: scripts and simulations on a copy, save slots. */
final class CopiesTest {
    private static final String HIT = "Gllb0v012t38";

    public static void main(String[] args) {
        promise23Range();
        promise23Arrive();
        promise23Run();
        promise23Loop();
        promise23Mend();
        promise23Set();
        promise23Asks();
        promise23Others();
        promise23Order();
        promise24Range();
        promise24Turns();
        promise24Many();
        promise25();
        promise26();
        Due.end("CopiesTest");
    }

    private static void good(String gate, long... groups) {
        script(gate, -1, groups);
    }

    private static void bad(String gate, long... groups) {
        script(gate, groups.length - 1, groups);
    }

    private static void script(String gate, int want, long... groups) {
        LorryArms x = Due.loaded(gate);
        String before = Due.whole(x);
        long all = 0;
        for (long g : groups) {
            all = all * 100000 + g;
        }
        long script = all;
        Due.is("runScript(" + groups.length + ", " + script + ") of " + gate, want,
                () -> x.runScript(groups.length, script));
        Due.same("the state behind it", Due.whole(x), before);
        Due.notNow("undo() behind it", x::undo);
    }

    private static void promise23Range() {
        LorryArms x = new LorryArms();
        Due.illegal("runScript(0, 0)", () -> x.runScript(0, 0));
        Due.illegal("runScript(4, 0)", () -> x.runScript(4, 0));
        Due.illegal("runScript(-1, 0)", () -> x.runScript(-1, 0));
        Due.illegal("runScript(greatest, 0)", () -> x.runScript(Integer.MAX_VALUE, 0));
        Due.illegal("runScript(1, -1)", () -> x.runScript(1, -1));
        Due.illegal("runScript(3, least)", () -> x.runScript(3, Long.MIN_VALUE));
        Due.illegal("runScript(3, greatest)", () -> x.runScript(3, Long.MAX_VALUE));
        Due.illegal("runScript(1, 100000)", () -> x.runScript(1, 100000));
        Due.illegal("runScript(2, 10000000000)", () -> x.runScript(2, 10000000000L));
        Due.illegal("runScript(3, 1000000000000000)", () -> x.runScript(3, 1000000000000000L));
        Due.is("runScript(1, 99999)", 0, () -> x.runScript(1, 99999));
        Due.is("runScript(2, 9999999999)", 0, () -> x.runScript(2, 9999999999L));
        Due.is("runScript(3, 999999999999999)", 0, () -> x.runScript(3, 999999999999999L));
        Due.is("runScript(1, 0)", 0, () -> x.runScript(1, 0));
        Due.is("runScript(3, 20001)", 0, () -> x.runScript(3, 20001));
        Due.is("runScript(1, 20001)", -1, () -> x.runScript(1, 20001));
    }

    private static void promise23Arrive() {
        good("Gl", 10020);
        good("Gl", 10123);
        bad("Gl", 10010);
        bad("Gl", 10000);
        bad("Gl", 10130);
        bad("Gl", 10990);
        bad("Gl", 10024);
        bad("Gl", 10029);
        bad("Gl", 11020);
        bad("Gl", 19020);
        bad("G", 10020);
        good("Glv002v002v002v002v002", 10020, 70006);
        bad("Glv002v002v002v002v002", 10020, 70005);
        bad("Glv002v002v002v002v002v002", 10020);
        // A lost ticket with 1 and 3: the check goes on for 12 ticks, not 3; at 22 the arm rises.
        good("Gl", 10020, 20022, 90001);
        good("Gl", 10022, 20022, 90001);
        good("Gl", 10021, 20022, 90000);
        good("Gl", 10023, 20022, 90000);
        // A follower with 2 and 3 slips through behind the first one.
        good("Glv002", 10020, 20060, 80000);
        good("Glv002", 10021, 20060, 80000);
        bad("Glv002", 10022, 20060, 80000);
        bad("Glv002", 10023, 20060, 80000);
    }

    private static void promise23Run() {
        good("Gl", 20001);
        good("G", 20060);
        bad("G", 20000);
        bad("G", 20061);
        bad("G", 20099);
        bad("G", 21001);
        bad("G", 20101);
        good("Glv002", 20025, 60400);
        bad("Glv002", 20024, 60400);
    }

    private static void promise23Loop() {
        good("Gl", 30000);
        good("Gl", 30100);
        bad("Gl", 30200);
        bad("Gl", 30900);
        bad("Gl", 30010);
        bad("Gl", 30001);
        bad("Gl", 31000);
        bad("G", 30100);
        good("Glv012t32", 30100, 20001, 90004);
        bad("Glv012t32", 30000, 20001, 90004);
        good("Glb0v012t32", 30000, 20001, 90002);
        good("Glb0v012t32", 30100, 20001, 90004);
    }

    private static void promise23Mend() {
        good(HIT, 40000);
        good(HIT, 90004, 40000, 90000);
        bad(HIT, 40000, 40000);
        bad(HIT, 41000);
        bad(HIT, 42000);
        bad(HIT, 40100);
        bad(HIT, 40010);
        bad(HIT, 40001);
        bad("Gllb0v012t37", 40000);
        bad("Gl", 40000);
    }

    private static void promise23Set() {
        good("G", 50010);
        good("G", 50200);
        bad("G", 50000);
        bad("G", 50210);
        good("G", 51010);
        good("G", 51600);
        bad("G", 51000);
        bad("G", 51610);
        good("G", 52000);
        good("G", 52200);
        bad("G", 52210);
        bad("G", 53010);
        bad("G", 59010);
        bad("G", 50011);
        good("Glv002", 50010, 20020, 90001);
        bad("Glv002", 50020, 20020, 90001);
        good("Glv002x", 51010, 20020, 90001);
    }

    private static void promise23Asks() {
        good("Gl", 60000);
        bad("Gl", 60100);
        bad("Gl", 60010);
        bad("Gl", 60001);
        bad("Gl", 61000);
        good(HIT, 60300);
        bad(HIT, 60400);
        good(HIT, 61000);
        good(HIT, 70001);
        good(HIT, 70009);
        bad(HIT, 70000);
        good(HIT, 71000);
        bad(HIT, 72000);
        bad(HIT, 70100);
        bad(HIT, 70010);
        good("G", 80000);
        good("G", 80099);
        bad("G", 81000);
        bad("G", 80100);
        good("Glv002v002ft30", 80001);
        bad("Glv002v002ft30", 80000);
        good("Glv002v002ft29", 80000);
        String ten = "Glv002v002fv002fv002fv002fv002ft60v002v002fv002fv002fv002fv002ft60";
        good(ten, 80010);
        bad(ten, 80009);
        good(ten + "v002v002ft60", 80011);
        bad(ten + "v002v002ft60", 80010);
        good(HIT, 90004);
        bad(HIT, 90000);
        good(HIT, 91000);
        bad(HIT, 92000);
        bad(HIT, 90104);
        bad(HIT, 90014);
        bad(HIT, 91009);
    }

    private static void promise23Others() {
        bad("Glll", 0);
        bad("Glll", 1);
        bad("Glll", 9999);
        bad("Glll", 20001, 0);
        for (int c = 1; c <= 9; c++) {
            if (c != 2 && c != 5 && c != 8) {
                bad("Glll", c * 10000 + 3000);
                bad("Glll", c * 10000 + 9000);
            }
        }
    }

    private static void promise23Order() {
        script("Gl", 0, 20000, 20001, 20001);
        script("Gl", 1, 20001, 20000, 20001);
        script("Gl", 2, 20001, 20001, 20000);
        script("Gl", -1, 20001, 20002, 20003);
        script("Gl", 0, 0, 0, 20003);
        script("Gl", 1, 60000, 20000);
    }

    private static void promise24Range() {
        LorryArms x = new LorryArms();
        Due.illegal("simulate(0, 0)", () -> x.simulate(0, 0));
        Due.illegal("simulate(0, 61)", () -> x.simulate(0, 61));
        Due.illegal("simulate(0, -1)", () -> x.simulate(0, -1));
        Due.illegal("simulate(0, greatest)", () -> x.simulate(0, Integer.MAX_VALUE));
        Due.is("simulate(0, 60) without lanes", 0, () -> x.simulate(0, 60));
        Due.is("simulate(least, 1) without lanes", 0, () -> x.simulate(Long.MIN_VALUE, 1));
        Due.is("simulate(greatest, 60) without lanes", 0, () -> x.simulate(Long.MAX_VALUE, 60));
    }

    /** The turns are done by the calls of the face, and what has come is counted. */
    private static void promise24Turns() {
        String[] gates = {"Glll", "Gl", "Glllv002v002fv112v202xb1", HIT, "Glb0v012v002fv002fv002ft60"};
        int hits = 0;
        int slipped = 0;
        for (String gate : gates) {
            for (long seed = -40; seed < 60; seed++) {
                LorryArms x = Due.loaded(gate);
                String before = Due.whole(x);
                long drawn = seed * 0x9E3779B97F4A7C15L;
                int m = (int) (1 + Math.floorMod(drawn, 60L));
                int due = turns(gate, drawn, m);
                hits += due / 10000;
                slipped += due / 100 % 100;
                Due.is("simulate(" + drawn + ", " + m + ") of " + gate, due, () -> x.simulate(drawn, m));
                Due.same("the state behind it", Due.whole(x), before);
                Due.notNow("undo() behind it", x::undo);
            }
        }
        int seen = (hits > 0 ? 1 : 0) + (slipped > 0 ? 2 : 0);
        Due.is("hits and slips in simulations", 3, () -> seen);
    }

    private static int turns(String gate, long seed, int m) {
        LorryArms x = Due.loaded(gate);
        int hits = x.about(6);
        int slipped = x.about(5);
        int passed = x.about(3);
        long state = seed;
        for (int i = 0; i < m; i++) {
            state = state * 6364136223846793005L + 1442695040888963407L;
            int r = (int) (state >>> 33);
            try {
                turn(x, r % 8, r / 8);
            } catch (RuntimeException e) {
                // left out
            }
        }
        return 10000 * (x.about(6) - hits) + 100 * (x.about(5) - slipped) + Math.min(99, x.about(3) - passed);
    }

    private static void turn(LorryArms x, int kind, int q) {
        if (kind < 3) {
            x.arrive(q % 3, 2 + q / 4 % 11, q / 64 % 8 == 0, q / 512 % 4 == 0);
        } else if (kind == 3) {
            x.loop(q % 3, q / 4 % 4 == 0);
        } else if (kind == 4) {
            x.mend(q % 3);
        } else {
            x.run(1 + q % 20);
        }
    }

    /** What has passed, slipped or been hit before does not count. */
    private static void promise24Many() {
        LorryArms x = Due.loaded("Glb0v012v002v002ft60m0t60t60");
        Due.same("before", x.about(3) + " " + x.about(5) + " " + x.about(6), "3 1 1");
        int due = turns("Glb0v012v002v002ft60m0t60t60", 5, 1);
        Due.is("simulate(5, 1)", due, () -> x.simulate(5, 1));
        Due.is("simulate(5, 1) is less than a hundred", 1, () -> x.simulate(5, 1) < 100 ? 1 : 0);
    }

    private static void promise25() {
        LorryArms x = Due.loaded("Glv002t09");
        Due.is("save(0)", 9, () -> x.save(0));
        x.run(60);
        Due.is("save(1)", 69, () -> x.save(1));
        Due.outside("save(2)", () -> x.save(2));
        Due.outside("save(-1)", () -> x.save(-1));
        Due.outside("save(least)", () -> x.save(Integer.MIN_VALUE));
        Due.is("undo() behind save()", 0, x::undo);
        Due.is("save(1) over another one", 9, () -> x.save(1));
        x.run(1);
        Due.is("restore(1)", 9, () -> x.restore(1));
    }

    private static void promise26() {
        LorryArms x = Due.loaded("Glv002t09");
        Due.notNow("restore(0)", () -> x.restore(0));
        Due.notNow("restore(1)", () -> x.restore(1));
        Due.outside("restore(2)", () -> x.restore(2));
        Due.outside("restore(-1)", () -> x.restore(-1));
        String first = Due.whole(x);
        x.save(0);
        Due.notNow("restore(1) with 0 saved", () -> x.restore(1));
        x.set(2, 7);
        x.arrive(0, 12, true, true);
        x.run(30);
        String second = Due.whole(x);
        x.save(1);
        x.lane();
        x.loop(0, true);
        Due.is("restore(0)", 9, () -> x.restore(0));
        Due.same("the state of the slot 0", Due.whole(x), first);
        Due.notNow("undo() behind restore()", x::undo);
        x.run(20);
        Due.is("restore(1)", 39, () -> x.restore(1));
        Due.same("the state of the slot 1", Due.whole(x), second);
        x.run(20);
        Due.is("restore(0) again", 9, () -> x.restore(0));
        Due.same("the state of the slot 0", Due.whole(x), first);
        x.run(1);
        Due.is("undo()", 0, x::undo);
        Due.same("the state behind it", Due.whole(x), first);
        x.clearText();
        x.append('G');
        x.save(1);
        Due.is("restore(1)", 9, () -> x.restore(1));
        Due.is("clearText() behind restore()", 1, x::clearText);
        x.append('G');
        Due.is("load()", 0, x::load);
        Due.notNow("restore(0) behind load()", () -> x.restore(0));
        Due.notNow("restore(1) behind load()", () -> x.restore(1));
    }
}
