/** Promises 1 to 5: a new object and the text. */
final class TextTest {
    private static final String FRESH = "0 0 0 0 0 0 0 0 0 0 3 12 2 ";

    public static void main(String[] args) {
        promise1();
        promise2();
        promise3();
        promise4();
        promise4EverySign();
        promise5();
        promise5LeftOut();
        promise5MakesNew();
        promise5Throws();
        Due.end("TextTest");
    }

    private static void promise1() {
        LorryArms x = new LorryArms();
        Due.same("a new object", Due.whole(x), FRESH);
        Due.notNow("undo() at first", x::undo);
        Due.notNow("restore(0) at first", () -> x.restore(0));
        Due.notNow("restore(1) at first", () -> x.restore(1));
        Due.outside("why(0) at first", () -> x.why(0));
        Due.is("bestLane(2) at first", -1, () -> x.bestLane(2));
        Due.is("clearText() at first", 0, x::clearText);
    }

    private static void promise2() {
        LorryArms x = new LorryArms();
        Due.illegal("append(-1)", () -> x.append(-1));
        Due.illegal("append(256)", () -> x.append(256));
        Due.illegal("append(least)", () -> x.append(Integer.MIN_VALUE));
        Due.illegal("append(greatest)", () -> x.append(Integer.MAX_VALUE));
        Due.is("append(0)", 1, () -> x.append(0));
        Due.is("append(255)", 2, () -> x.append(255));
        for (int i = 3; i <= 120; i++) {
            Due.is("append(65)", i, () -> x.append(65));
        }
        Due.notNow("append(65) to 120 characters", () -> x.append(65));
        Due.illegal("append(256) to 120 characters", () -> x.append(256));
        Due.illegal("append(-1) to 120 characters", () -> x.append(-1));
        Due.is("clearText()", 120, x::clearText);
        Due.is("append(65)", 1, () -> x.append(65));
    }

    private static void promise3() {
        LorryArms x = new LorryArms();
        Due.is("clearText()", 0, x::clearText);
        Due.write(x, "Gll");
        Due.is("clearText()", 3, x::clearText);
        Due.is("clearText()", 0, x::clearText);
        Due.is("errorPosition()", 0, x::errorPosition);
        x.append('G');
        Due.is("errorPosition()", -1, x::errorPosition);
        Due.is("load()", 0, x::load);
        Due.is("about(0)", 0, () -> x.about(0));
    }

    private static void error(String text, int want) {
        LorryArms x = new LorryArms();
        Due.write(x, text);
        Due.is("errorPosition() of " + text, want, x::errorPosition);
        Due.same("the state behind it", Due.whole(x), FRESH);
        Due.is("clearText() behind it", text.length(), x::clearText);
    }

    private static void promise4() {
        error("", 0);
        error("g", 0);
        error(" G", 0);
        error("lG", 0);
        error("G", -1);
        error("GG", 1);
        error("G ", 1);
        error("Gl", -1);
        error("Gl l", 2);
        error("GlL", 2);
        error("Gx", 1);
        error("Gf", 1);
        error("G0", 1);
        error("Glll", -1);
        error("Gllll", -1);
        error("Gv", 2);
        error("Gv0", 3);
        error("Gv00", 4);
        error("Gv1", 3);
        error("Gv01", 4);
        error("Gv002", -1);
        error("Gv212", -1);
        error("Gv012x", -1);
        error("Gv012f", -1);
        error("Gv012xf", -1);
        error("Gv012fx", 6);
        error("Gv012xx", 6);
        error("Gv012ff", 6);
        error("Gv012xfl", -1);
        error("Gv012xfv109fv202x", -1);
        error("Gv0121", 5);
        error("Gb", 2);
        error("Gb0", -1);
        error("Gb2x", 3);
        error("Gm", 2);
        error("Gm1m2m0", -1);
        error("Gt", 2);
        error("Gt0", 3);
        error("Gt6", 3);
        error("Gt601", 4);
        error("Gt01t60t59", -1);
        error("Gt1l", 3);
        error("Gs", 1);
        StringBuilder full = new StringBuilder("G");
        for (int i = 0; i < 119; i++) {
            full.append('l');
        }
        error(full.toString(), -1);
        full.setCharAt(119, 'v');
        error(full.toString(), 120);
        full.setCharAt(119, 'z');
        error(full.toString(), 119);
    }

    /** At each place of a command, every sign there is. */
    private static void promise4EverySign() {
        everySign("", "G");
        everySign("G", "lvbmt");
        everySign("Gl", "lvbmt");
        everySign("Gv", "012");
        everySign("Gv2", "01");
        everySign("Gv10", "23456789");
        everySign("Gv01", "012");
        everySign("Gv002", "lvbmtxf");
        everySign("Gv002x", "lvbmtf");
        everySign("Gv002f", "lvbmt");
        everySign("Gv002xf", "lvbmt");
        everySign("Gb", "012");
        everySign("Gb0", "lvbmt");
        everySign("Gm", "012");
        everySign("Gm2", "lvbmt");
        everySign("Gt", "0123456");
        everySign("Gt0", "123456789");
        everySign("Gt1", "0123456789");
        everySign("Gt5", "0123456789");
        everySign("Gt6", "0");
        everySign("Gt60", "lvbmt");
    }

    private static void everySign(String before, String allowed) {
        for (int c = 0; c <= 255; c++) {
            int sign = c;
            LorryArms x = new LorryArms();
            Due.write(x, before);
            x.append(sign);
            boolean good = allowed.indexOf((char) sign) >= 0;
            int at = before.length();
            Due.is("is the sign " + sign + " wrong behind " + before, good ? 0 : 1,
                    () -> x.errorPosition() == at ? 1 : 0);
        }
    }

    private static void promise5() {
        LorryArms x = new LorryArms();
        Due.write(x, "Gllv012xfv002fv107xb1t05");
        Due.is("load()", 0, x::load);
        Due.same("the gate", Due.whole(x), "2 5 3 0 0 0 0 0 1 0 3 12 2 "
                + "| 2 0 0 48 0 0 0 2 : 12 4 1 1 0 : 2 -9 0 1 0 | 1 0 0 48 1 0 0 1 : 7 4 1 0 0 ");
        Due.notNow("undo() behind load()", x::undo);
        Due.is("load() again", 0, x::load);
        Due.is("about(1)", 5, () -> x.about(1));
        Due.is("clearText()", 24, x::clearText);
        Due.write(x, "G");
        Due.is("load() of G", 0, x::load);
        Due.same("an empty gate", Due.whole(x), FRESH);
    }

    private static void leftOut(String text, int want, String state) {
        LorryArms x = new LorryArms();
        Due.write(x, text);
        Due.is("load() of " + text, want, x::load);
        Due.same("the state behind " + text, Due.whole(x), state);
    }

    private static void promise5LeftOut() {
        leftOut("Gv002b1m2", 3, FRESH);
        leftOut("Gllllll", 3, "3 0 0 0 0 0 0 0 0 0 3 12 2 "
                + "| 0 0 0 48 0 0 0 0 | 0 0 0 48 0 0 0 0 | 0 0 0 48 0 0 0 0 ");
        leftOut("Glm0m1b1v102", 4, "1 0 0 0 0 0 0 0 0 0 3 12 2 | 0 0 0 48 0 0 0 0 ");
        leftOut("Glv002v002v002v002v002v002v003v004", 2, "1 0 6 0 0 0 0 0 0 0 3 12 2 | 6 0 0 48 0 0 0 6 "
                + ": 2 -1 0 0 0 : 2 -4 0 0 0 : 2 -7 0 0 0 : 2 -10 0 0 0 : 2 -13 0 0 0 : 2 -16 0 0 0 ");
        // The arm comes down on the vehicle at the tick 33, which leaves the cell 20 at the tick 38.
        leftOut("Glb0v012t33m0", 1, "1 33 1 0 0 0 1 1 1 0 3 12 2 | 1 3 0 48 1 1 0 0 : 12 27 0 0 1 ");
        leftOut("Glb0v012t37m0", 1, "1 37 1 0 0 0 1 1 1 0 3 12 2 | 1 3 0 48 1 1 0 0 : 12 31 0 0 1 ");
        leftOut("Glb0v012t38m0", 0, "1 38 1 0 1 0 1 0 1 0 3 12 2 | 1 3 0 60 1 0 0 0 : 12 32 0 0 1 ");
        leftOut("Glb0v012t60m0m0", 1, "1 60 0 1 1 0 1 0 1 0 3 12 2 | 0 3 0 60 1 0 0 0 ");
    }

    private static void promise5MakesNew() {
        LorryArms x = Due.loaded("Gl");
        x.arrive(0, 3, false, false);
        x.set(0, 7);
        x.set(1, 8);
        x.set(2, 9);
        x.run(60);
        x.save(0);
        x.save(1);
        Due.write(x, "Glt02");
        Due.is("load()", 0, x::load);
        Due.same("a new gate", Due.whole(x), "1 2 0 0 0 0 0 0 0 0 3 12 2 | 0 0 0 48 0 0 0 0 ");
        Due.notNow("undo() behind load()", x::undo);
        Due.notNow("restore(0) behind load()", () -> x.restore(0));
        Due.notNow("restore(1) behind load()", () -> x.restore(1));
        x.run(1);
        Due.is("undo()", 0, x::undo);
        Due.is("about(1)", 2, () -> x.about(1));
        // Of a lane with everything in it, and of one with a hold and a check, nothing is left.
        LorryArms y = Due.loaded("Gllv002xv002fb0v012v003fv005t60t60v102xt28");
        Due.same("a used gate", Due.whole(y), "2 148 3 3 2 1 1 1 1 1 3 12 2 "
                + "| 2 3 8 54 1 1 0 1 : 3 19 0 1 1 : 5 16 0 0 0 | 1 0 0 48 0 0 9 1 : 2 19 1 0 0 ");
        Due.write(y, "Gll");
        Due.is("load()", 0, y::load);
        String two = "2 0 0 0 0 0 0 0 0 0 3 12 2 | 0 0 0 48 0 0 0 0 | 0 0 0 48 0 0 0 0 ";
        Due.same("two new lanes", Due.whole(y), two);
        // A check that had gone on in the lane that was there before is no part of a new one's check.
        LorryArms z = Due.loaded("Gllv002xv102xt22");
        Due.write(z, "Gll");
        Due.is("load()", 0, z::load);
        Due.same("two new lanes", Due.whole(z), two);
    }

    private static void promise5Throws() {
        LorryArms x = new LorryArms();
        Due.notNow("load() of nothing", x::load);
        x.lane();
        x.arrive(0, 5, true, false);
        x.run(3);
        x.save(1);
        String before = Due.whole(x);
        for (String bad : new String[] {"", "Gv0", "Gll ", "l", "Gt00"}) {
            Due.write(x, bad);
            Due.notNow("load() of " + bad, x::load);
            Due.same("the state behind it", Due.whole(x), before);
            Due.is("clearText()", bad.length(), x::clearText);
        }
        Due.is("restore(1)", 3, () -> x.restore(1));
        LorryArms y = new LorryArms();
        y.lane();
        Due.notNow("load() of nothing", y::load);
        Due.is("undo()", 0, y::undo);
    }
}
