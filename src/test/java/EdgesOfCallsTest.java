/** The edges that the promises 1 to 17, 25 and 26 name: a test for each sentence. */
final class EdgesOfCallsTest {
    private static final String NEW = "0 0 0 0 0 0 0 0 0 0 3 12 2 ";
    private static final String NEW_LANE = "| 0 0 0 48 0 0 0 0 ";

    public static void main(String[] args) {
        promises1To5();
        promises6To10();
        promises11To14();
        promises15To17();
        promises25And26();
        Due.end("EdgesOfCallsTest");
    }

    private static void promises1To5() {
        promise1();
        promise2Code();
        promise2Returns();
        promise2Full();
        promise3();
        promise4();
        promise5MakesNew();
        promise5StatesAndSlots();
        promise5KeepsTheText();
        promise5Returns();
        promise5NoGate();
    }

    private static void promises6To10() {
        promise6AtFirst();
        promise6What();
        promise6LostTickets();
        promise6BrokenOnes();
        promise7Lane();
        promise7What();
        promise7Check();
        promise7NotLet();
        promise8LaneAndVehicle();
        promise8What();
        promise8Front();
        promise9SeveralReasons();
        promise9Broken();
        promise9Lane();
        promise10();
    }

    private static void promises11To14() {
        promise11Returns();
        promise11Full();
        promise12Lane();
        promise12Length();
        promise12Full();
        promise12Returns();
        promise13Lane();
        promise13Returns();
        promise14Lane();
        promise14NotBroken();
        promise14Covered();
        promise14KeepsHeight();
    }

    private static void promises15To17() {
        promise15Range();
        promise15Returns();
        promise16What();
        promise16Value();
        promise16Returns();
        promise17None();
        promise17Returns();
    }

    private static void promises25And26() {
        promise25Slot();
        promise25Returns();
        promise25Again();
        promise26Slot();
        promise26NothingSaved();
        promise26Forgets();
        promise26Keeps();
    }

    private static int number(LorryArms x, int l, int what) {
        return x.laneOf(l, what);
    }

    // ---- text

    private static void promise1() {
        Due.by("Creates a gate without lanes.");
        LorryArms x = new LorryArms();
        Due.same("a new gate", Due.whole(x), NEW);
        Due.is("the first lane()", 0, x::lane);
        Due.same("a new lane", Due.whole(x), NEW.replaceFirst("0", "1") + NEW_LANE);
        // No two objects have anything in common.
        Due.same("another new gate", Due.whole(new LorryArms()), NEW);
        Due.is("its text", 0, () -> new LorryArms().clearText());
    }

    private static void promise2Code() {
        Due.by("Throws IllegalArgumentException if c is out of range");
        LorryArms x = new LorryArms();
        Due.illegal("append(-1)", () -> x.append(-1));
        Due.illegal("append(256)", () -> x.append(256));
        Due.illegal("append() of the sign of 'G' and 256", () -> x.append('G' + 256));
        Due.illegal("append() of the sign of 'G' and 65536", () -> x.append('G' + 65536));
        Due.is("append(0)", 1, () -> x.append(0));
        Due.is("append(255)", 2, () -> x.append(255));
    }

    private static void promise2Returns() {
        Due.by("Returns the new length of the text.");
        LorryArms x = new LorryArms();
        for (int i = 1; i <= 120; i++) {
            int c = i;
            Due.is("append(" + c + ")", i, () -> x.append(c));
        }
    }

    private static void promise2Full() {
        Due.by("Throws IllegalStateException if the text already has 120 characters");
        LorryArms x = new LorryArms();
        Due.write(x, "G" + "l".repeat(118));
        Due.is("append() to 119", 120, () -> x.append('l'));
        Due.notNow("append() to 120", () -> x.append('l'));
        Due.notNow("append() to 120 again", () -> x.append(0));
        Due.is("errorPosition()", -1, x::errorPosition);
        x.clearText();
        Due.is("append() behind clearText()", 1, () -> x.append('l'));
    }

    private static void promise3() {
        Due.by("Returns the previous length of the text.");
        for (int n = 0; n <= 120; n += 24) {
            LorryArms x = new LorryArms();
            Due.write(x, "z".repeat(n));
            Due.is("clearText() of " + n, n, x::clearText);
            Due.is("clearText() of none", 0, x::clearText);
            Due.is("errorPosition() of none", 0, x::errorPosition);
        }
    }

    private static void promise4() {
        Due.by("Returns the error position of the text; NONE if it is a gate.");
        LorryArms x = new LorryArms();
        Due.is("errorPosition() of an empty text", 0, x::errorPosition);
        x.append('G');
        Due.is("errorPosition() of G", LorryArms.NONE, x::errorPosition);
        x.append('v');
        Due.is("errorPosition() of Gv", 2, x::errorPosition);
        x.append('3');
        Due.is("errorPosition() of Gv3", 2, x::errorPosition);
        Due.is("clearText()", 3, x::clearText);
        // What stood behind the end of a text before is none of it.
        Due.write(x, "Gv002xf");
        Due.write(x, "Gv0");
        Due.is("errorPosition() of a shorter text", 3, x::errorPosition);
    }

    private static void promise5MakesNew() {
        Due.by("Makes everything as in a new object, and then does the commands of the text.");
        LorryArms x = Due.loaded("Glllv002v012xfb1t60v102v202x");
        x.set(0, 20);
        x.set(1, 60);
        x.set(2, 20);
        Due.write(x, "G");
        x.load();
        Due.same("a new gate", Due.whole(x), NEW);
        x.lane();
        x.lane();
        x.lane();
        Due.same("three lanes", Due.whole(x), NEW.replaceFirst("0", "3") + NEW_LANE + NEW_LANE + NEW_LANE);
        // Nothing is left of a lane with a height, a hold, a check, a broken loop and arm, and all that is counted.
        LorryArms y = Due.loaded("Glv002v002fb0t60v002xt60v012v003v003x");
        y.run(60);
        y.run(1);
        Due.same("a used lane", Due.whole(y), "1 181 2 4 3 1 1 1 1 1 3 12 2 | 2 3 8 49 1 1 0 1 : 3 19 0 0 1 : 3 16 1 0 0 ");
        Due.write(y, "Gl");
        y.load();
        Due.same("a new lane", Due.whole(y), NEW.replaceFirst("0", "1") + NEW_LANE);
        LorryArms z = Due.loaded("Glv002xt30");
        Due.is("a check", 11, () -> number(z, 0, 6));
        Due.write(z, "Gl");
        z.load();
        Due.same("a new lane", Due.whole(z), NEW.replaceFirst("0", "1") + NEW_LANE);
    }

    private static void promise5StatesAndSlots() {
        Due.by("Behind it no state is remembered, and both save slots are empty.");
        LorryArms x = new LorryArms();
        x.lane();
        x.run(5);
        x.save(0);
        x.save(1);
        Due.write(x, "Glt07");
        x.load();
        Due.notNow("undo()", x::undo);
        Due.notNow("restore(0)", () -> x.restore(0));
        Due.notNow("restore(1)", () -> x.restore(1));
        Due.is("about(1)", 7, () -> x.about(1));
        x.save(1);
        Due.notNow("restore(0) with 1 saved", () -> x.restore(0));
        Due.is("restore(1)", 7, () -> x.restore(1));
    }

    private static void promise5KeepsTheText() {
        Due.by("Keeps the text.");
        LorryArms x = Due.loaded("Glt07");
        Due.is("append()", 6, () -> x.append('l'));
        Due.is("load()", 0, x::load);
        Due.is("about(0)", 2, () -> x.about(0));
        Due.is("clearText()", 6, x::clearText);
    }

    private static void promise5Returns() {
        Due.by("Returns the number of commands that are left out.");
        LorryArms x = new LorryArms();
        x.append('G');
        for (int left = 0; left < 59; left++) {
            Due.is("load()", left, x::load);
            x.append('m');
            x.append('2');
        }
        Due.is("load() of 119 signs", 59, x::load);
        LorryArms y = new LorryArms();
        Due.write(y, "G" + "t01".repeat(39) + "b0");
        Due.is("load() of 120 signs", 1, y::load);
        Due.is("about(1)", 39, () -> y.about(1));
    }

    private static void promise5NoGate() {
        Due.by("Throws IllegalStateException if the text is not a gate");
        LorryArms x = Due.loaded("Gl");
        for (String text : new String[] {"", "g", "l", "Gv", "Gt0", "Gz", "Gl ", "Glv002xx"}) {
            Due.write(x, text);
            Due.notNow("load() of " + text, x::load);
            Due.is("about(0)", 1, () -> x.about(0));
        }
    }

    // ---- what there is

    private static void promise6AtFirst() {
        Due.by("Returns a number.");
        LorryArms x = new LorryArms();
        for (int i = 0; i <= 9; i++) {
            int what = i;
            Due.is("about(" + i + ") at first", 0, () -> x.about(what));
        }
    }

    private static void promise6What() {
        Due.by("Throws IllegalArgumentException if what is not 0 to 9");
        LorryArms x = Due.loaded("Glv002");
        Due.illegal("about(-1)", () -> x.about(-1));
        Due.illegal("about(10)", () -> x.about(10));
        Due.is("about(0)", 1, () -> x.about(0));
        Due.is("about(9)", 0, () -> x.about(9));
    }

    private static void promise6LostTickets() {
        Due.by("9: the lost tickets with which vehicles were let so far");
        // A follower slips through without being let: its lost ticket does not count.
        LorryArms x = Due.at(60, "Glv002v002xf");
        Due.is("about(5)", 1, () -> x.about(5));
        Due.is("about(9)", 0, () -> x.about(9));
        LorryArms y = Due.at(30, "Gllv002xv102x");
        Due.is("about(9) at 30", 0, () -> y.about(9));
        y.run(1);
        Due.is("about(9) at 31", 2, () -> y.about(9));
        y.run(60);
        Due.is("about(9) when they have passed", 2, () -> y.about(9));
    }

    private static void promise6BrokenOnes() {
        Due.by("6: the hits so far; 7: the broken arms; 8: the broken loops");
        LorryArms x = Due.at(38, "Glllb0b1b2v012v112v212");
        Due.same("hits, arms, loops", x.about(6) + " " + x.about(7) + " " + x.about(8), "3 3 3");
        x.mend(1);
        x.loop(2, false);
        Due.same("hits, arms, loops", x.about(6) + " " + x.about(7) + " " + x.about(8), "3 2 2");
    }

    private static void promise7Lane() {
        Due.by("Throws IndexOutOfBoundsException if there is no such lane");
        LorryArms x = Due.loaded("Gll");
        Due.outside("laneOf(-1, 3)", () -> x.laneOf(-1, 3));
        Due.is("laneOf(1, 3)", 48, () -> x.laneOf(1, 3));
        Due.outside("laneOf(2, 3)", () -> x.laneOf(2, 3));
    }

    private static void promise7What() {
        Due.by("Throws IllegalArgumentException if what is not 0 to 7");
        LorryArms x = Due.loaded("Glv002v003");
        Due.illegal("laneOf(0, -1)", () -> x.laneOf(0, -1));
        Due.is("laneOf(0, 0)", 2, () -> x.laneOf(0, 0));
        Due.is("laneOf(0, 7)", 2, () -> x.laneOf(0, 7));
        Due.illegal("laneOf(0, 8)", () -> x.laneOf(0, 8));
    }

    private static void promise7Check() {
        Due.by("6: the ticks for which a check has gone on, 0 without one");
        int[] want = {0, 1, 2, 0, 0};
        LorryArms x = Due.at(19, "Glv002");
        for (int i = 0; i < want.length; i++) {
            Due.is("laneOf(0, 6) at " + x.about(1), want[i], () -> x.laneOf(0, 6));
            x.run(1);
        }
        Due.is("laneOf(0, 6) of an empty lane", 0, () -> number(Due.loaded("Gl"), 0, 6));
    }

    private static void promise7NotLet() {
        Due.by("7: the vehicles that are not let and have not gone through, nor have their front at 20 or more");
        LorryArms x = Due.at(27, "Glv002v002fv003v004");
        Due.is("laneOf(0, 7) with a front at 19", 3, () -> x.laneOf(0, 7));
        x.run(1);
        Due.is("laneOf(0, 7) with a front at 20", 2, () -> x.laneOf(0, 7));
        x.run(3);
        Due.is("slipped", 1, () -> x.about(5));
        // The next one is let at the tick 31.
        Due.is("laneOf(0, 7)", 1, () -> x.laneOf(0, 7));
        Due.is("laneOf(0, 7) ahead of the lane", 6, () -> number(Due.loaded("Glv012v012v012v012v012v012"), 0, 7));
        Due.is("laneOf(0, 7) of an empty lane", 0, () -> number(Due.loaded("Gl"), 0, 7));
    }

    private static void promise8LaneAndVehicle() {
        Due.by("Throws IndexOutOfBoundsException if there is no such lane or vehicle");
        LorryArms x = Due.loaded("Gllv002v003v105");
        Due.outside("vehicle(-1, 0, 0)", () -> x.vehicle(-1, 0, 0));
        Due.outside("vehicle(2, 0, 0)", () -> x.vehicle(2, 0, 0));
        Due.outside("vehicle(0, -1, 0)", () -> x.vehicle(0, -1, 0));
        Due.is("vehicle(0, 1, 0)", 3, () -> x.vehicle(0, 1, 0));
        Due.outside("vehicle(0, 2, 0)", () -> x.vehicle(0, 2, 0));
        Due.is("vehicle(1, 0, 0)", 5, () -> x.vehicle(1, 0, 0));
        Due.outside("vehicle(1, 1, 0)", () -> x.vehicle(1, 1, 0));
    }

    private static void promise8What() {
        Due.by("Throws IllegalArgumentException if what is not 0 to 4");
        LorryArms x = Due.at(22, "Glv002");
        Due.illegal("vehicle(0, 0, -1)", () -> x.vehicle(0, 0, -1));
        Due.is("vehicle(0, 0, 0)", 2, () -> x.vehicle(0, 0, 0));
        Due.is("vehicle(0, 0, 4)", 1, () -> x.vehicle(0, 0, 4));
        Due.illegal("vehicle(0, 0, 5)", () -> x.vehicle(0, 0, 5));
    }

    private static void promise8Front() {
        Due.by("1: its front (it may be less than 0)");
        LorryArms x = Due.loaded("Glv012v002");
        Due.is("vehicle(0, 1, 1)", -14, () -> x.vehicle(0, 1, 1));
        x.run(14);
        Due.is("vehicle(0, 1, 1) at 14", 0, () -> x.vehicle(0, 1, 1));
    }

    private static void promise9SeveralReasons() {
        Due.by("(of several the first one)");
        // At 37 the second vehicle is let at once, while the first one covers the loop and the hold is above 0.
        LorryArms x = Due.at(30, "Glv012v002");
        x.set(0, 1);
        x.run(7);
        Due.is("vehicle(0, 0, 1)", 31, () -> x.vehicle(0, 0, 1));
        Due.is("vehicle(0, 1, 4)", 1, () -> x.vehicle(0, 1, 4));
        Due.is("laneOf(0, 2)", 7, () -> x.laneOf(0, 2));
        Due.is("why(0) of all three", 1, () -> x.why(0));
        x.run(1);
        Due.is("why(0) of the last two", 2, () -> x.why(0));
        x.run(3);
        Due.is("why(0) of the last one", 3, () -> x.why(0));
        x.run(10);
        Due.is("why(0) of none", 0, () -> x.why(0));
    }

    private static void promise9Broken() {
        Due.by("0: it should not be up; 4: it is broken.");
        LorryArms x = Due.at(32, "Glb0v012v003");
        Due.is("why(0) at 32", 0, () -> x.why(0));
        x.run(1);
        Due.is("why(0) at 33", 4, () -> x.why(0));
        x.loop(0, false);
        Due.is("why(0) with a covered loop", 4, () -> x.why(0));
        x.run(27);
        Due.is("vehicle(0, 0, 4)", 1, () -> x.vehicle(0, 0, 4));
        Due.is("laneOf(0, 2)", 9, () -> x.laneOf(0, 2));
        Due.is("why(0) with one that is let, and a hold", 4, () -> x.why(0));
        x.mend(0);
        Due.is("why(0) of an arm that is mended", 1, () -> x.why(0));
    }

    private static void promise9Lane() {
        Due.by("Throws IndexOutOfBoundsException if there is no such lane");
        LorryArms x = Due.loaded("Gll");
        Due.outside("why(-1)", () -> x.why(-1));
        Due.is("why(1)", 0, () -> x.why(1));
        Due.outside("why(2)", () -> x.why(2));
    }

    private static void promise10() {
        Due.by("Throws IllegalArgumentException if what is out of range");
        LorryArms x = new LorryArms();
        Due.illegal("setting(-1)", () -> x.setting(-1));
        Due.is("setting(0)", 3, () -> x.setting(0));
        Due.is("setting(2)", 2, () -> x.setting(2));
        Due.illegal("setting(3)", () -> x.setting(3));
        Due.illegal("setting(4)", () -> x.setting(4));
    }

    // ---- actions

    private static void promise11Returns() {
        Due.by("Returns its number.");
        LorryArms x = new LorryArms();
        Due.is("lane()", 0, x::lane);
        x.undo();
        Due.is("lane() behind undo()", 0, x::lane);
        Due.is("lane()", 1, x::lane);
        Due.is("lane()", 2, x::lane);
    }

    private static void promise11Full() {
        Due.by("Throws IllegalStateException if there are 3");
        LorryArms x = Due.loaded("Glll");
        Due.notNow("lane()", x::lane);
        Due.is("about(0)", 3, () -> x.about(0));
        LorryArms y = Due.loaded("Gll");
        Due.is("lane()", 2, y::lane);
        Due.notNow("lane()", y::lane);
        y.undo();
        Due.is("lane() behind undo()", 2, y::lane);
    }

    private static void promise12Lane() {
        Due.by("Throws IndexOutOfBoundsException if there is no such lane");
        LorryArms x = Due.loaded("Gll");
        Due.outside("arrive(-1, ..)", () -> x.arrive(-1, 2, false, false));
        Due.is("arrive(1, ..)", 1, () -> x.arrive(1, 2, false, false));
        Due.outside("arrive(2, ..)", () -> x.arrive(2, 2, false, false));
    }

    private static void promise12Length() {
        Due.by("Throws IllegalArgumentException if length is out of range");
        LorryArms x = Due.loaded("Gl");
        for (int length : new int[] {-2, 0, 1, 13, 14, 40}) {
            Due.illegal("arrive(0, " + length + ", ..)", () -> x.arrive(0, length, false, false));
        }
        Due.is("laneOf(0, 0)", 0, () -> x.laneOf(0, 0));
    }

    private static void promise12Full() {
        Due.by("Throws IllegalStateException if there are 6 in the lane");
        LorryArms x = Due.loaded("Gllv002v002v002v002v002");
        Due.is("arrive() of the sixth", 6, () -> x.arrive(0, 2, false, false));
        Due.notNow("arrive() of a seventh", () -> x.arrive(0, 2, false, false));
        Due.notNow("arrive() of a seventh follower", () -> x.arrive(0, 2, true, true));
        Due.is("arrive() in the other lane", 1, () -> x.arrive(1, 2, false, false));
    }

    private static void promise12Returns() {
        Due.by("Returns the vehicles in the lane then.");
        LorryArms x = Due.loaded("Glll");
        for (int i = 1; i <= 6; i++) {
            for (int l = 0; l <= 2; l++) {
                int lane = l;
                Due.is("arrive(" + l + ", ..)", i, () -> x.arrive(lane, 12, lane == 1, lane == 2));
            }
        }
        Due.is("about(2)", 18, () -> x.about(2));
    }

    private static void promise13Lane() {
        Due.by("Throws IndexOutOfBoundsException if there is no such lane");
        LorryArms x = Due.loaded("Gll");
        Due.outside("loop(-1, true)", () -> x.loop(-1, true));
        Due.is("loop(1, true)", 1, () -> x.loop(1, true));
        Due.outside("loop(2, true)", () -> x.loop(2, true));
        Due.outside("loop(2, false)", () -> x.loop(2, false));
    }

    private static void promise13Returns() {
        Due.by("Returns the broken loops then.");
        LorryArms x = Due.loaded("Glll");
        int[] lanes = {0, 0, 1, 2, 2, 1, 0, 0, 2};
        boolean[] broken = {false, true, true, true, true, false, false, false, false};
        int[] want = {0, 1, 2, 3, 3, 2, 1, 1, 0};
        for (int i = 0; i < want.length; i++) {
            int l = lanes[i];
            boolean b = broken[i];
            Due.is("loop(" + l + ", " + b + ")", want[i], () -> x.loop(l, b));
        }
    }

    private static void promise14Lane() {
        Due.by("Throws IndexOutOfBoundsException if there is no such lane");
        LorryArms x = Due.at(38, "Gllb1v112");
        Due.outside("mend(-1)", () -> x.mend(-1));
        Due.is("mend(1)", 3, () -> x.mend(1));
        Due.outside("mend(2)", () -> x.mend(2));
    }

    private static void promise14NotBroken() {
        Due.by("Throws IllegalStateException if it is not broken, or a vehicle covers the cell 20");
        LorryArms x = Due.at(40, "Gllb1v112");
        Due.notNow("mend(0)", () -> x.mend(0));
        Due.is("mend(1)", 3, () -> x.mend(1));
        Due.notNow("mend(1) again", () -> x.mend(1));
        Due.notNow("mend(0) with its loop broken", () -> Due.loaded("Glb0").mend(0));
    }

    private static void promise14Covered() {
        Due.by("Throws IllegalStateException if it is not broken, or a vehicle covers the cell 20");
        // A follower's front is 20, 21 and then 22, with a last cell of 21.
        LorryArms x = Due.at(33, "Glb0v002t12v002f");
        for (int front = 20; front <= 21; front++) {
            int due = front;
            Due.is("vehicle(0, 1, 1)", due, () -> x.vehicle(0, 1, 1));
            Due.notNow("mend(0) with the front at " + front, () -> x.mend(0));
            x.run(1);
        }
        Due.is("mend(0) with the last cell at 21", 3, () -> x.mend(0));
        // The next one stands with its front at 19, and is not under the arm.
        LorryArms y = Due.at(60, "Glb0v012v012");
        Due.is("vehicle(0, 0, 1)", 19, () -> y.vehicle(0, 0, 1));
        Due.is("mend(0)", 3, () -> y.mend(0));
    }

    private static void promise14KeepsHeight() {
        Due.by("Mends an arm that is broken; it keeps its height.");
        LorryArms x = Due.at(50, "Glb0v012");
        Due.is("mend(0)", 3, () -> x.mend(0));
        for (int height = 3; height >= 0; height--) {
            Due.is("laneOf(0, 1)", height, () -> x.laneOf(0, 1));
            x.run(1);
        }
        Due.is("laneOf(0, 1)", 0, () -> x.laneOf(0, 1));
    }

    private static void promise15Range() {
        Due.by("Throws IllegalArgumentException if n is out of range");
        LorryArms x = new LorryArms();
        Due.illegal("run(0)", () -> x.run(0));
        Due.illegal("run(61)", () -> x.run(61));
        Due.is("about(1)", 0, () -> x.about(1));
        x.run(1);
        Due.is("about(1)", 1, () -> x.about(1));
        x.run(60);
        Due.is("about(1)", 61, () -> x.about(1));
    }

    private static void promise15Returns() {
        Due.by("Returns the vehicles that go through or slip through in them.");
        Due.is("run(60) without lanes", 0, () -> new LorryArms().run(60));
        // At 28 the first ones of all lanes go through, at 30 a follower slips through.
        LorryArms x = Due.loaded("Glllv002v002fv102v202");
        Due.is("run(27)", 0, () -> x.run(27));
        Due.is("run(1)", 3, () -> x.run(1));
        Due.is("run(1)", 0, () -> x.run(1));
        Due.is("run(1)", 1, () -> x.run(1));
        Due.is("run(60)", 0, () -> x.run(60));
        Due.is("about(3)", 4, () -> x.about(3));
        LorryArms y = Due.loaded("Glllv002v002fv102v202");
        Due.is("run(60)", 4, () -> y.run(60));
    }

    private static void promise16What() {
        Due.by("Throws IllegalArgumentException if what or v is out of range");
        LorryArms x = new LorryArms();
        Due.illegal("set(-1, 5)", () -> x.set(-1, 5));
        Due.illegal("set(3, 5)", () -> x.set(3, 5));
        Due.notNow("undo()", x::undo);
    }

    private static void promise16Value() {
        Due.by("v: the new value, in its range");
        LorryArms x = new LorryArms();
        Due.illegal("set(0, 0)", () -> x.set(0, 0));
        Due.illegal("set(0, 21)", () -> x.set(0, 21));
        Due.illegal("set(1, 0)", () -> x.set(1, 0));
        Due.illegal("set(1, 61)", () -> x.set(1, 61));
        Due.illegal("set(2, -1)", () -> x.set(2, -1));
        Due.illegal("set(2, 21)", () -> x.set(2, 21));
        Due.same("the state", Due.whole(x), NEW);
        Due.is("set(1, 21)", 12, () -> x.set(1, 21));
        Due.is("set(2, 0)", 2, () -> x.set(2, 0));
    }

    private static void promise16Returns() {
        Due.by("Returns the previous one.");
        LorryArms x = new LorryArms();
        int[][] values = {{1, 20, 20, 1}, {1, 60, 60, 1}, {0, 20, 20, 0}};
        int[] first = {3, 12, 2};
        for (int i = 0; i < 3; i++) {
            int what = i;
            int before = first[i];
            for (int v : values[i]) {
                Due.is("set(" + what + ", " + v + ")", before, () -> x.set(what, v));
                before = v;
            }
        }
    }

    private static void promise17None() {
        Due.by("Throws IllegalStateException if none is remembered");
        LorryArms x = new LorryArms();
        Due.notNow("undo() at first", x::undo);
        x.lane();
        Due.is("undo()", 0, x::undo);
        Due.notNow("undo() of one more", x::undo);
        Due.same("the state", Due.whole(x), NEW);
    }

    private static void promise17Returns() {
        Due.by("Returns how many states are still remembered.");
        LorryArms x = new LorryArms();
        for (int i = 0; i < 14; i++) {
            x.run(1);
        }
        for (int left = 13; left >= 0; left--) {
            Due.is("undo()", left, x::undo);
        }
        // A fifteenth one does not make more of them.
        for (int i = 0; i < 15; i++) {
            x.run(1);
        }
        for (int left = 13; left >= 0; left--) {
            Due.is("undo()", left, x::undo);
        }
        Due.notNow("undo() of the fifteenth", x::undo);
        Due.is("about(1)", 1, () -> x.about(1));
    }

    // ---- save slots

    private static void promise25Slot() {
        Due.by("Throws IndexOutOfBoundsException if there is no such save slot");
        LorryArms x = new LorryArms();
        Due.outside("save(-1)", () -> x.save(-1));
        Due.is("save(0)", 0, () -> x.save(0));
        Due.is("save(1)", 0, () -> x.save(1));
        Due.outside("save(2)", () -> x.save(2));
        Due.outside("save(3)", () -> x.save(3));
    }

    private static void promise25Returns() {
        Due.by("Returns the ticks so far.");
        LorryArms x = new LorryArms();
        Due.is("save(0) of a new object", 0, () -> x.save(0));
        x.run(60);
        x.run(60);
        Due.is("save(0)", 120, () -> x.save(0));
        Due.is("save(1)", 120, () -> x.save(1));
    }

    private static void promise25Again() {
        Due.by("Stores the present state in a save slot.");
        LorryArms x = Due.loaded("Glb0v012v003xfv004");
        x.set(1, 60);
        x.run(40);
        String first = Due.whole(x);
        x.save(0);
        x.run(40);
        String second = Due.whole(x);
        x.save(1);
        x.run(40);
        x.restore(0);
        Due.same("the slot 0", Due.whole(x), first);
        x.restore(1);
        Due.same("the slot 1", Due.whole(x), second);
        x.save(0);
        x.run(1);
        x.restore(0);
        Due.same("the slot 0, saved again", Due.whole(x), second);
    }

    private static void promise26Slot() {
        Due.by("Throws IndexOutOfBoundsException if there is no such save slot");
        LorryArms x = new LorryArms();
        x.save(0);
        x.save(1);
        Due.outside("restore(-1)", () -> x.restore(-1));
        Due.is("restore(0)", 0, () -> x.restore(0));
        Due.is("restore(1)", 0, () -> x.restore(1));
        Due.outside("restore(2)", () -> x.restore(2));
        Due.outside("restore(3)", () -> x.restore(3));
    }

    private static void promise26NothingSaved() {
        Due.by("Throws IllegalStateException if nothing has been saved in it since the last load");
        LorryArms x = new LorryArms();
        Due.notNow("restore(0) of a new object", () -> x.restore(0));
        Due.notNow("restore(1) of a new object", () -> x.restore(1));
        x.save(1);
        Due.notNow("restore(0) with 1 saved", () -> x.restore(0));
        Due.is("restore(1)", 0, () -> x.restore(1));
        Due.write(x, "G");
        x.load();
        Due.notNow("restore(1) behind load()", () -> x.restore(1));
        x.save(0);
        Due.is("restore(0)", 0, () -> x.restore(0));
        // A load that throws leaves the slots.
        x.clearText();
        Due.notNow("load()", x::load);
        Due.is("restore(0)", 0, () -> x.restore(0));
    }

    private static void promise26Forgets() {
        Due.by("Replaces the state by the one in a save slot, and forgets all remembered states.");
        LorryArms x = new LorryArms();
        for (int i = 0; i < 20; i++) {
            x.run(1);
        }
        x.save(0);
        Due.is("restore(0)", 20, () -> x.restore(0));
        Due.notNow("undo()", x::undo);
        for (int made = 1; made <= 20; made++) {
            x.run(1);
        }
        Due.is("undo()", 13, x::undo);
        Due.is("about(1)", 39, () -> x.about(1));
    }

    private static void promise26Keeps() {
        Due.by("The save slot keeps it.");
        LorryArms x = Due.loaded("Glv002xt25");
        String saved = Due.whole(x);
        x.save(0);
        for (int i = 0; i < 3; i++) {
            Due.is("restore(0)", 25, () -> x.restore(0));
            Due.same("the state", Due.whole(x), saved);
            x.run(60);
            x.arrive(0, 12, false, false);
            x.lane();
            x.set(2, 20);
        }
        x.undo();
        Due.is("restore(0) behind undo()", 25, () -> x.restore(0));
        Due.same("the state", Due.whole(x), saved);
    }
}
