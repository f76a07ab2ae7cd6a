/** The edges that the sections TEXT, ACTIONS AND UNDO and EXCEPTIONS name: a test for each sentence. */
final class EdgesOfRulesTest {
    private interface On {
        long call(LorryArms x);
    }

    private interface OnValue {
        long call(LorryArms x, int v);
    }

    private static final int LEAST = Integer.MIN_VALUE;
    private static final int GREATEST = Integer.MAX_VALUE;

    public static void main(String[] args) {
        text();
        actions();
        exceptions();
        Due.end("EdgesOfRulesTest");
    }

    private static void text() {
        fullText();
        letterG();
        commandOfALane();
        commandOfAVehicle();
        lengthsInAText();
        ticketAndFollower();
        ticketAndFollowerAtTheEnd();
        commandOfALoop();
        commandOfAnArm();
        commandOfTicks();
        leftOut();
        noBlanks();
        firstOfTwoErrors();
        digitsThatBeginNoNumber();
        endsTooSoon();
    }

    private static void actions() {
        textIsNoState();
        slotsAreNoState();
        everythingElseIsState();
        eachActionIsRemembered();
        actionsThatChangeNothing();
        undoIsNoAction();
        fourteenStates();
        loadIsNoAction();
        restoreIsNoAction();
    }

    private static void exceptions() {
        lanesThatDoNotExist();
        vehiclesThatDoNotExist();
        slotsThatDoNotExist();
        outOfRange();
        firstNamedFirst();
        changesNothing();
    }

    private static int error(String text) {
        LorryArms x = new LorryArms();
        Due.write(x, text);
        return x.errorPosition();
    }

    private static void wrongAt(int want, String text) {
        Due.is("errorPosition() of " + text, want, () -> error(text));
    }

    private static void good(String text) {
        wrongAt(-1, text);
    }

    /** At the end of a text that is right so far, every sign there is. */
    private static void next(String before, String allowed) {
        for (int c = 0; c <= 255; c++) {
            String text = before + (char) c;
            boolean is = allowed.indexOf((char) c) >= 0;
            Due.is("does the sign " + c + " stand right behind " + before, is ? 1 : 0,
                    () -> error(text) != before.length() ? 1 : 0);
        }
    }

    // ---- TEXT

    private static void fullText() {
        Due.by("The object has a text buffer of at most 120 characters.");
        LorryArms x = new LorryArms();
        Due.is("clearText() of an empty text", 0, x::clearText);
        for (int i = 1; i <= 120; i++) {
            int c = i == 1 ? 'G' : 'l';
            Due.is("append() number " + i, i, () -> x.append(c));
        }
        Due.notNow("append() number 121", () -> x.append('l'));
        Due.is("errorPosition() of 120 characters", -1, x::errorPosition);
        Due.is("load() of 120 characters", 116, x::load);
        Due.is("clearText() of a full text", 120, x::clearText);
        Due.is("append() to a text that is empty again", 1, () -> x.append('G'));
    }

    private static void letterG() {
        Due.by("A gate as a text is the letter G, and then any number of commands");
        next("", "G");
        wrongAt(0, "");
        good("G");
        good("Gl");
        wrongAt(1, "GG");
        StringBuilder many = new StringBuilder("G");
        while (many.length() < 119) {
            many.append("b2");
            good(many.toString());
        }
        many.append('l');
        good(many.toString());
    }

    private static void commandOfALane() {
        Due.by("l: lane()");
        next("G", "lvbmt");
        next("Gl", "lvbmt");
        for (int lanes = 0; lanes <= 3; lanes++) {
            LorryArms x = Due.loaded("G" + "l".repeat(lanes));
            Due.is("the lanes", lanes, () -> x.about(0));
        }
    }

    private static void commandOfAVehicle() {
        Due.by("v, a digit for a lane (0 to 2), two for a length (02 to 12)");
        next("Gv", "012");
        next("Gv0", "01");
        next("Gv00", "23456789");
        next("Gv01", "012");
        next("Gv212", "lvbmtxf");
        for (int l = 0; l <= 2; l++) {
            LorryArms x = Due.loaded("Glllv" + l + "02");
            for (int i = 0; i <= 2; i++) {
                int lane = i;
                Due.is("the vehicles of " + i + " behind v" + l + "02", i == l ? 1 : 0, () -> x.laneOf(lane, 0));
            }
        }
    }

    private static void lengthsInAText() {
        Due.by("two for a length (02 to 12)");
        for (int n = 0; n <= 99; n++) {
            String two = (n < 10 ? "0" : "") + n;
            boolean is = n >= 2 && n <= 12;
            Due.is("is v0" + two + " right", is ? 1 : 0, () -> error("Glv0" + two) == -1 ? 1 : 0);
            if (is) {
                Due.is("the length of v0" + two, n, () -> Due.loaded("Glv0" + two).vehicle(0, 0, 0));
            }
        }
    }

    private static void ticketAndFollower() {
        Due.by("and perhaps x (a lost ticket), and then perhaps f (a follower): arrive()");
        next("Gv012x", "lvbmtf");
        next("Gv012f", "lvbmt");
        next("Gv012xf", "lvbmt");
        String[] ends = {"", "x", "f", "xf"};
        for (int i = 0; i < ends.length; i++) {
            int kind = i;
            // As the last command, and with another one behind it.
            for (String behind : new String[] {"", "l", "v002xf"}) {
                LorryArms x = Due.loaded("Glv012" + ends[i] + behind);
                Due.is("lost by v012" + ends[i] + behind, kind % 2, () -> x.vehicle(0, 0, 2));
                Due.is("follower by v012" + ends[i] + behind, kind / 2, () -> x.vehicle(0, 0, 3));
            }
        }
    }

    private static void ticketAndFollowerAtTheEnd() {
        Due.by("and perhaps x (a lost ticket), and then perhaps f (a follower): arrive()");
        String[] ends = {"v012", "v012x", "v012f", "v012xf"};
        for (int i = 0; i < ends.length; i++) {
            int kind = i;
            String text = "G" + "l".repeat(119 - ends[i].length()) + ends[i];
            good(text);
            LorryArms y = new LorryArms();
            Due.write(y, text);
            Due.is("load() of 120 signs with " + ends[i], 116 - ends[i].length(), y::load);
            Due.is("lost by " + ends[i], kind % 2, () -> y.vehicle(0, 0, 2));
            Due.is("follower by " + ends[i], kind / 2, () -> y.vehicle(0, 0, 3));
        }
        // What stood behind a text that is shorter now is none of it.
        LorryArms x = Due.loaded("Glv012xf");
        Due.write(x, "Glv012");
        Due.is("load()", 0, x::load);
        Due.is("lost", 0, () -> x.vehicle(0, 0, 2));
        Due.is("follower", 0, () -> x.vehicle(0, 0, 3));
    }

    private static void commandOfALoop() {
        Due.by("b and a digit for a lane: loop(), broken");
        next("Gb", "012");
        next("Gb2", "lvbmt");
        for (int l = 0; l <= 2; l++) {
            LorryArms x = Due.loaded("Glllb" + l + "b" + l);
            for (int i = 0; i <= 2; i++) {
                int lane = i;
                Due.is("the loop of " + i + " behind b" + l, i == l ? 1 : 0, () -> x.laneOf(lane, 4));
            }
        }
    }

    private static void commandOfAnArm() {
        Due.by("m and a digit for a lane: mend()");
        next("Gm", "012");
        next("Gm0", "lvbmt");
        for (int l = 0; l <= 2; l++) {
            LorryArms x = Due.loaded("Glllb0b1b2v012v112v212t38m" + l);
            for (int i = 0; i <= 2; i++) {
                int lane = i;
                Due.is("the arm of " + i + " behind m" + l, i == l ? 0 : 1, () -> x.laneOf(lane, 5));
            }
        }
    }

    private static void commandOfTicks() {
        Due.by("t and two digits (01 to 60): run()");
        next("Gt", "0123456");
        next("Gt0", "123456789");
        next("Gt5", "0123456789");
        next("Gt6", "0");
        for (int n = 0; n <= 99; n++) {
            String two = (n < 10 ? "0" : "") + n;
            boolean is = n >= 1 && n <= 60;
            Due.is("is t" + two + " right", is ? 1 : 0, () -> error("Gt" + two) == -1 ? 1 : 0);
            if (is) {
                Due.is("the ticks of t" + two, n, () -> Due.loaded("Gt" + two).about(1));
            }
        }
    }

    private static void leftOut(String text, int want) {
        LorryArms x = new LorryArms();
        Due.write(x, text);
        Due.is("load() of " + text, want, x::load);
    }

    private static void leftOut() {
        Due.by("Commands that would throw an exception are left out.");
        leftOut("G", 0);
        leftOut("Glll", 0);
        leftOut("Gllll", 1);
        leftOut("Gv002", 1);
        leftOut("Glv102", 1);
        leftOut("Gllv202", 1);
        leftOut("Glllv202", 0);
        leftOut("Glv002v002v002v002v002v002", 0);
        leftOut("Glv002v002v002v002v002v002v002xf", 1);
        leftOut("Gb0", 1);
        leftOut("Glb0", 0);
        leftOut("Glb1", 1);
        leftOut("Gm0", 1);
        leftOut("Glm0", 1);
        leftOut("Glb0v012t37m0", 1);
        leftOut("Glb0v012t38m0", 0);
        leftOut("Glb0v012t38m0m0", 1);
        leftOut("Gt60", 0);
        // What is left out changes nothing, and the commands behind it are done.
        LorryArms x = Due.loaded("Gv002b0m0llt05llv003v104x");
        Due.same("the state", Due.whole(x), "3 5 2 0 0 0 0 0 0 0 3 12 2 | 1 0 0 48 0 0 0 1 : 3 -1 0 0 0 "
                + "| 1 0 0 48 0 0 0 1 : 4 -1 1 0 0 | 0 0 0 48 0 0 0 0 ");
    }

    private static void noBlanks() {
        Due.by("There are no blanks.");
        wrongAt(0, " G");
        wrongAt(1, "G ");
        wrongAt(1, "G l");
        wrongAt(2, "Gl ");
        wrongAt(2, "Gv 002");
        wrongAt(5, "Gv002 x");
        wrongAt(2, "Gt 5");
    }

    private static void firstOfTwoErrors() {
        Due.by("The error position is the index of the first character that these rules do not allow at its place");
        wrongAt(0, "gx");
        wrongAt(0, "lGv9");
        wrongAt(2, "Gv9x9");
        wrongAt(3, "Glb3t61");
        wrongAt(4, "Gt01z");
        wrongAt(119, "G" + "l".repeat(118) + "x");
        wrongAt(1, "Gx" + "l".repeat(118));
    }

    private static void digitsThatBeginNoNumber() {
        Due.by("(a digit is not allowed if no number that is allowed begins with it and those before it)");
        wrongAt(3, "Gv020");
        wrongAt(3, "Gv2999");
        wrongAt(4, "Gv000");
        wrongAt(4, "Gv001");
        wrongAt(4, "Gv013");
        wrongAt(2, "Gt70");
        wrongAt(2, "Gt99");
        wrongAt(3, "Gt00");
        wrongAt(3, "Gt61");
        wrongAt(3, "Gt69");
        wrongAt(2, "Gv3");
        wrongAt(2, "Gb3");
        wrongAt(2, "Gm9");
    }

    private static void endsTooSoon() {
        Due.by("if the text ends too soon, it is the length of the text.");
        for (String text : new String[] {"", "Gv", "Gv2", "Gv20", "Gv21", "Gb", "Gm", "Gt", "Gt0", "Gt6", "Glllt"}) {
            wrongAt(text.length(), text);
        }
        wrongAt(120, "G" + "l".repeat(118) + "v");
        wrongAt(120, "G" + "l".repeat(117) + "t6");
        wrongAt(120, "G" + "l".repeat(116) + "v01");
    }

    // ---- ACTIONS AND UNDO

    private static void textIsNoState() {
        Due.by("the state, which consists of everything but the text and the save slots.");
        LorryArms x = new LorryArms();
        x.lane();
        Due.write(x, "Gl");
        Due.is("undo()", 0, x::undo);
        Due.is("errorPosition()", -1, x::errorPosition);
        Due.is("clearText()", 2, x::clearText);
    }

    private static void slotsAreNoState() {
        Due.by("the state, which consists of everything but the text and the save slots.");
        LorryArms x = new LorryArms();
        x.run(7);
        x.save(0);
        Due.is("undo()", 0, x::undo);
        Due.is("about(1)", 0, () -> x.about(1));
        Due.is("restore(0)", 7, () -> x.restore(0));
    }

    private static void everythingElseIsState() {
        Due.by("Before each action, the state is remembered.");
        LorryArms x = Due.loaded("Gllb0v012v002xfv102xv003v104fv112t40");
        x.set(0, 5);
        x.set(1, 6);
        x.set(2, 7);
        String before = Due.whole(x);
        x.run(60);
        Due.is("is it another state", 1, () -> Due.whole(x).equals(before) ? 0 : 1);
        Due.is("undo()", 3, x::undo);
        Due.same("the state", Due.whole(x), before);
        // What has been taken back comes again in the same way.
        LorryArms y = Due.loaded("Gllb0v012v002xfv102xv003v104fv112t40");
        y.set(0, 5);
        y.set(1, 6);
        y.set(2, 7);
        x.run(60);
        y.run(60);
        Due.same("the state", Due.whole(x), Due.whole(y));
    }

    private static void eachActionIsRemembered() {
        Due.by("Before each action, the state is remembered.");
        LorryArms x = Due.loaded("Glb0v012t40");
        String before = Due.whole(x);
        On[] actions = {LorryArms::lane, y -> y.arrive(0, 2, true, true), y -> y.loop(0, false), y -> y.mend(0),
            y -> y.run(60), y -> y.set(2, 0)};
        for (int i = 0; i < actions.length; i++) {
            On action = actions[i];
            Due.is("does the action " + i + " change anything", 1, () -> {
                action.call(x);
                return Due.whole(x).equals(before) ? 0 : 1;
            });
            Due.is("undo() of the action " + i, 0, x::undo);
            Due.same("the state behind it", Due.whole(x), before);
        }
    }

    private static void actionsThatChangeNothing() {
        Due.by("Each call of one of them that does not throw an exception is an action, also if nothing becomes "
                + "different");
        LorryArms x = Due.loaded("Gl");
        x.loop(0, false);
        Due.is("undo() of loop()", 0, x::undo);
        x.set(0, 3);
        Due.is("undo() of set()", 0, x::undo);
        x.set(0, 3);
        x.set(0, 3);
        x.loop(0, false);
        Due.is("undo() of three", 2, x::undo);
        Due.is("undo() of two", 1, x::undo);
        Due.is("undo() of one", 0, x::undo);
        Due.notNow("undo() of none", x::undo);
    }

    private static void undoIsNoAction() {
        Due.by("(undo is none)");
        LorryArms x = new LorryArms();
        x.run(1);
        x.run(2);
        Due.is("undo()", 1, x::undo);
        Due.is("about(1)", 1, () -> x.about(1));
        Due.is("undo()", 0, x::undo);
        Due.is("about(1)", 0, () -> x.about(1));
        Due.notNow("undo()", x::undo);
    }

    private static void fourteenStates() {
        Due.by("At most 14 states are remembered; when one more is remembered, the oldest one is forgotten.");
        for (int made = 0; made <= 60; made++) {
            LorryArms x = new LorryArms();
            for (int i = 0; i < made; i++) {
                x.run(1);
            }
            int held = Math.min(made, 14);
            for (int i = 1; i <= held; i++) {
                int left = held - i;
                int tick = made - i;
                Due.is("undo() of " + made + " actions", left, x::undo);
                Due.is("about(1) behind " + i + " of " + made, tick, () -> x.about(1));
            }
            Due.notNow("undo() of none of " + made, x::undo);
        }
    }

    private static void loadIsNoAction() {
        Due.by("load and restore are not actions.");
        LorryArms x = new LorryArms();
        Due.write(x, "Glt09");
        x.load();
        Due.notNow("undo() behind load()", x::undo);
        // One that throws leaves what is remembered.
        x.run(1);
        x.append('z');
        Due.notNow("load()", x::load);
        Due.is("undo()", 0, x::undo);
        Due.is("about(1)", 9, () -> x.about(1));
    }

    private static void restoreIsNoAction() {
        Due.by("load and restore are not actions.");
        LorryArms x = new LorryArms();
        x.run(4);
        x.save(1);
        x.run(4);
        Due.notNow("restore(0)", () -> x.restore(0));
        Due.is("undo() behind one that throws", 1, x::undo);
        Due.is("restore(1)", 4, () -> x.restore(1));
        Due.notNow("undo() behind restore()", x::undo);
    }

    // ---- EXCEPTIONS

    private static void lanesThatDoNotExist() {
        Due.by("IndexOutOfBoundsException means that a lane or a vehicle does not exist, or that a save slot is not 0 "
                + "or 1.");
        for (int lanes = 0; lanes <= 3; lanes++) {
            LorryArms x = Due.loaded("G" + "l".repeat(lanes));
            for (int l : new int[] {LEAST, -2, -1, lanes, lanes + 1, 3, 4, 1000, GREATEST}) {
                String told = "(" + l + ", ..) of " + lanes;
                Due.outside("laneOf" + told, () -> x.laneOf(l, 0));
                Due.outside("vehicle" + told, () -> x.vehicle(l, 0, 0));
                Due.outside("why" + told, () -> x.why(l));
                Due.outside("arrive" + told, () -> x.arrive(l, 2, false, false));
                Due.outside("loop" + told, () -> x.loop(l, true));
                Due.outside("mend" + told, () -> x.mend(l));
                Due.outside("emptyIn" + told, () -> x.emptyIn(l));
                Due.outside("throughIn" + told, () -> x.throughIn(l, 0));
                Due.outside("hitsIn" + told, () -> x.hitsIn(l));
            }
        }
    }

    private static void vehiclesThatDoNotExist() {
        Due.by("IndexOutOfBoundsException means that a lane or a vehicle does not exist, or that a save slot is not 0 "
                + "or 1.");
        for (int cars = 0; cars <= 6; cars++) {
            LorryArms x = Due.loaded("Gllv102v102v102v102v102v102" + "v002".repeat(cars));
            for (int k : new int[] {LEAST, -2, -1, cars, cars + 1, 6, 7, 1000, GREATEST}) {
                Due.outside("vehicle(0, " + k + ", 0) of " + cars, () -> x.vehicle(0, k, 0));
                Due.outside("throughIn(0, " + k + ") of " + cars, () -> x.throughIn(0, k));
            }
            for (int k = 0; k < cars; k++) {
                int car = k;
                Due.is("vehicle(0, " + k + ", 0) of " + cars, 2, () -> x.vehicle(0, car, 0));
            }
        }
    }

    private static void slotsThatDoNotExist() {
        Due.by("IndexOutOfBoundsException means that a lane or a vehicle does not exist, or that a save slot is not 0 "
                + "or 1.");
        LorryArms x = new LorryArms();
        x.save(0);
        x.save(1);
        for (int slot : new int[] {LEAST, -2, -1, 2, 3, 1000, GREATEST}) {
            Due.outside("save(" + slot + ")", () -> x.save(slot));
            Due.outside("restore(" + slot + ")", () -> x.restore(slot));
        }
        Due.is("restore(0)", 0, () -> x.restore(0));
        Due.is("restore(1)", 0, () -> x.restore(1));
    }

    /** The ends of a range and what is next to them, and values far from it. */
    private static void range(String name, int least, int most, OnValue call) {
        LorryArms x = Due.loaded("Glv002");
        for (int v : new int[] {LEAST, -1000, least - 2, least - 1, most + 1, most + 2, most + 1000, GREATEST}) {
            Due.illegal(name + " with " + v, () -> call.call(x, v));
        }
        for (int v : new int[] {least, least + 1, most - 1, most}) {
            String got = Due.of(() -> call.call(x, v));
            Due.same("does " + name + " with " + v + " throw", got.startsWith("throws") ? got : "", "");
        }
    }

    private static void outOfRange() {
        Due.by("IllegalArgumentException means that another argument is out of its range.");
        range("append()", 0, 255, (x, v) -> x.append(v));
        range("about()", 0, 9, (x, v) -> x.about(v));
        range("laneOf()", 0, 7, (x, v) -> x.laneOf(0, v));
        range("vehicle()", 0, 4, (x, v) -> x.vehicle(0, 0, v));
        range("setting()", 0, 2, (x, v) -> x.setting(v));
        range("arrive()", 2, 12, (x, v) -> x.arrive(0, v, false, false));
        range("run()", 1, 60, (x, v) -> x.run(v));
        range("set(0)", 1, 20, (x, v) -> x.set(0, v));
        range("set(1)", 1, 60, (x, v) -> x.set(1, v));
        range("set(2)", 0, 20, (x, v) -> x.set(2, v));
        range("set() of what", 0, 2, (x, v) -> x.set(v, 7));
        range("bestLane()", 2, 12, (x, v) -> x.bestLane(v));
        range("coming() of n", 1, 400, (x, v) -> x.coming(v, 0));
        range("coming() of what", 0, 4, (x, v) -> x.coming(7, v));
        range("runScript()", 1, 3, (x, v) -> x.runScript(v, 0));
        range("simulate()", 1, 60, (x, v) -> x.simulate(1, v));
    }

    private static void firstNamedFirst() {
        Due.by("If several exceptions apply to a call, the one that its description names first is thrown.");
        LorryArms x = Due.loaded("Glv002v002v002v002v002v002");
        fill(x, 'l');
        Due.illegal("append(256) to a full text", () -> x.append(256));
        Due.outside("laneOf(1, 8)", () -> x.laneOf(1, 8));
        Due.outside("laneOf(-1, -1)", () -> x.laneOf(-1, -1));
        Due.outside("vehicle(1, 0, 5)", () -> x.vehicle(1, 0, 5));
        Due.outside("vehicle(0, 6, 5)", () -> x.vehicle(0, 6, 5));
        Due.outside("vehicle(0, -1, -1)", () -> x.vehicle(0, -1, -1));
        Due.outside("arrive(1, 1, ..)", () -> x.arrive(1, 1, false, false));
        Due.illegal("arrive(0, 13, ..) to a full lane", () -> x.arrive(0, 13, false, false));
        Due.notNow("arrive(0, 12, ..) to a full lane", () -> x.arrive(0, 12, false, false));
        Due.outside("mend(1)", () -> x.mend(1));
        Due.notNow("mend(0)", () -> x.mend(0));
        Due.outside("restore(2)", () -> x.restore(2));
        Due.notNow("restore(1)", () -> x.restore(1));
    }

    private static void fill(LorryArms x, char sign) {
        for (int n = x.append(sign); n < 120; n++) {
            x.append(sign);
        }
    }

    /** A full lane, three lanes, a full text, three actions, a slot that is saved. */
    private static LorryArms full() {
        LorryArms x = Due.loaded("Glllv002b0v112xt30v003v004v005v006v007");
        x.loop(2, true);
        x.set(1, 33);
        x.save(1);
        x.run(2);
        fill(x, 'z');
        return x;
    }

    private static void refused(String name, String exception, On call) {
        LorryArms x = full();
        String before = Due.whole(x);
        Due.same(name, Due.of(() -> call.call(x)), "throws." + exception);
        Due.same("the state behind " + name, Due.whole(x), before);
        Due.is("undo() behind " + name, 2, x::undo);
        Due.is("about(1) behind undo()", 30, () -> x.about(1));
        Due.is("undo() behind " + name, 1, x::undo);
        Due.is("undo() behind " + name, 0, x::undo);
        Due.is("errorPosition() behind " + name, 38, x::errorPosition);
        Due.is("clearText() behind " + name, 120, x::clearText);
        Due.notNow("restore(0) behind " + name, () -> x.restore(0));
        Due.is("restore(1) behind " + name, 30, () -> x.restore(1));
        Due.is("setting(1) behind restore(1)", 33, () -> x.setting(1));
    }

    private static void changesNothing() {
        Due.by("A call that throws an exception changes nothing.");
        String outside = "IndexOutOfBoundsException";
        String illegal = "IllegalArgumentException";
        String notNow = "IllegalStateException";
        refused("append(256)", illegal, x -> x.append(256));
        refused("append(65)", notNow, x -> x.append(65));
        refused("load()", notNow, LorryArms::load);
        refused("about(10)", illegal, x -> x.about(10));
        refused("laneOf(3, 0)", outside, x -> x.laneOf(3, 0));
        refused("laneOf(0, 8)", illegal, x -> x.laneOf(0, 8));
        refused("vehicle(0, 6, 0)", outside, x -> x.vehicle(0, 6, 0));
        refused("vehicle(0, 0, 5)", illegal, x -> x.vehicle(0, 0, 5));
        refused("why(3)", outside, x -> x.why(3));
        refused("setting(3)", illegal, x -> x.setting(3));
        refused("lane()", notNow, LorryArms::lane);
        refused("arrive(3, 2)", outside, x -> x.arrive(3, 2, false, false));
        refused("arrive(1, 13)", illegal, x -> x.arrive(1, 13, false, false));
        refused("arrive(0, 2)", notNow, x -> x.arrive(0, 2, true, true));
        refused("loop(3)", outside, x -> x.loop(3, true));
        refused("mend(3)", outside, x -> x.mend(3));
        refused("mend(0)", notNow, x -> x.mend(0));
        refused("run(0)", illegal, x -> x.run(0));
        refused("run(61)", illegal, x -> x.run(61));
        refused("set(3, 5)", illegal, x -> x.set(3, 5));
        refused("set(0, 21)", illegal, x -> x.set(0, 21));
        refused("emptyIn(3)", outside, x -> x.emptyIn(3));
        refused("throughIn(0, 6)", outside, x -> x.throughIn(0, 6));
        refused("bestLane(13)", illegal, x -> x.bestLane(13));
        refused("coming(401, 0)", illegal, x -> x.coming(401, 0));
        refused("coming(1, 5)", illegal, x -> x.coming(1, 5));
        refused("hitsIn(3)", outside, x -> x.hitsIn(3));
        refused("runScript(4, 0)", illegal, x -> x.runScript(4, 0));
        refused("runScript(1, 100000)", illegal, x -> x.runScript(1, 100000));
        refused("simulate(1, 61)", illegal, x -> x.simulate(1, 61));
        refused("save(2)", outside, x -> x.save(2));
        refused("restore(2)", outside, x -> x.restore(2));
        refused("restore(0)", notNow, x -> x.restore(0));
    }
}
