/**
 * Barrier arms of lanes. What each call promises stands in DOC.md, under the number of its promise.
 *
 * All rows and all states are made by the constructor and used again, so that no call makes an object but the
 * exception that it throws.
 */
public final class LorryArms {
    public static final int NONE = -1;

    private static final int MOST_SIGNS = 120;
    private static final int MOST_LANES = 3;
    private static final int MOST_VEHICLES = 6;
    private static final int MOST_REMEMBERED = 14;
    private static final int SLOTS = 2;
    private static final int SHORTEST = 2;
    private static final int LONGEST = 12;

    private static final int STOP_CELL = 19;
    private static final int ARM_CELL = 20;
    private static final int BEHIND_ARM_CELL = 21;
    private static final int LAST_CELL = 39;
    private static final int FULL_HEIGHT = 4;
    private static final int FIRST_LEARNED = 48;

    private static final int CHECK_TICKS = 0;
    private static final int LOST_CHECK_TICKS = 1;
    private static final int ADDED_HOLD = 2;
    private static final int SETTINGS = 3;

    private static final int LANES = 0;
    private static final int TICKS = 1;
    private static final int VEHICLES = 2;
    private static final int PASSED = 3;
    private static final int LET_THROUGH = 4;
    private static final int SLIPPED = 5;
    private static final int HITS = 6;
    private static final int BROKEN_ARMS = 7;
    private static final int BROKEN_LOOPS = 8;
    private static final int LOST_LET = 9;

    private static final int LET_WAITS = 1;
    private static final int LOOP_COVERED = 2;
    private static final int HELD = 3;
    private static final int ARM_BROKEN = 4;

    private static final int LONGEST_RUN = 60;
    private static final int MOST_AHEAD = 400;
    private static final int MOST_GROUPS = 3;
    private static final int GROUP = 100000;
    private static final int MOST_TURNS = 60;

    private final char[] text = new char[MOST_SIGNS];
    private int textLength = 0;

    private final Gate present = new Gate();
    /** Where what would be is tried out. */
    private final Gate copy = new Gate();

    /** A ring: the oldest state stands at the index oldest, the others behind it. */
    private final Gate[] remembered = new Gate[MOST_REMEMBERED];
    private int oldest = 0;
    private int rememberedCount = 0;

    private final Gate[] slots = new Gate[SLOTS];
    private final boolean[] saved = new boolean[SLOTS];

    public LorryArms() {
        for (int i = 0; i < MOST_REMEMBERED; i++) {
            remembered[i] = new Gate();
        }
        for (int i = 0; i < SLOTS; i++) {
            slots[i] = new Gate();
        }
    }

    // ---- text

    public int append(int c) throws IllegalArgumentException, IllegalStateException {
        if (c < 0 || c > 255) {
            throw new IllegalArgumentException("a character code is 0 to 255");
        }
        if (textLength >= MOST_SIGNS) {
            throw new IllegalStateException("the text is full");
        }
        text[textLength] = (char) c;
        textLength++;
        return textLength;
    }

    public int clearText() {
        int previous = textLength;
        textLength = 0;
        return previous;
    }

    public int errorPosition() {
        if (signAt(0) != 'G') {
            return 0;
        }
        int at = 1;
        for (int i = 0; i < MOST_SIGNS && at < textLength; i++) {
            int wrong = wrongSignOf(at);
            if (wrong != NONE) {
                return wrong;
            }
            at += commandLength(at);
        }
        return NONE;
    }

    public int load() throws IllegalStateException {
        if (errorPosition() != NONE) {
            throw new IllegalStateException("the text is not a gate");
        }
        present.clear();
        forgetAll();
        for (int i = 0; i < SLOTS; i++) {
            saved[i] = false;
        }
        int leftOut = 0;
        int at = 1;
        for (int i = 0; i < MOST_SIGNS && at < textLength; i++) {
            if (!doCommand(at)) {
                leftOut++;
            }
            at += commandLength(at);
        }
        return leftOut;
    }

    /** NONE behind the end of the text: as a sign that no rule allows, it makes the end the error position. */
    private int signAt(int at) {
        if (at < 0 || at >= textLength || at >= MOST_SIGNS) {
            return NONE;
        }
        return text[at];
    }

    private int digitAt(int at) {
        return signAt(at) - '0';
    }

    private int twoDigitsAt(int at) {
        return 10 * digitAt(at) + digitAt(at + 1);
    }

    /** The position of the first sign of the command at a place that is not allowed, or NONE. */
    private int wrongSignOf(int at) {
        int letter = signAt(at);
        int length = fixedLength(letter);
        if (length == 0) {
            return at;
        }
        for (int i = 1; i < length; i++) {
            if (!isAllowed(letter, i, signAt(at + i - 1), signAt(at + i))) {
                return at + i;
            }
        }
        return NONE;
    }

    /** How many signs a command has without its x and f; 0 if no command begins with this letter. */
    private static int fixedLength(int letter) {
        switch (letter) {
            case 'l':
                return 1;
            case 'b':
            case 'm':
                return 2;
            case 't':
                return 3;
            case 'v':
                return 4;
            default:
                return 0;
        }
    }

    private static boolean isAllowed(int letter, int place, int before, int sign) {
        if (letter == 't') {
            return place == 1 ? isBetween(sign, '0', '6') : isLastDigitOfTicks(before, sign);
        }
        if (place == 1) {
            return isBetween(sign, '0', '2');
        }
        return place == 2 ? isBetween(sign, '0', '1') : isLastDigitOfLength(before, sign);
    }

    private static boolean isLastDigitOfTicks(int before, int sign) {
        if (before == '0') {
            return isBetween(sign, '1', '9');
        }
        return isBetween(sign, '0', before == '6' ? '0' : '9');
    }

    private static boolean isLastDigitOfLength(int before, int sign) {
        return before == '0' ? isBetween(sign, '2', '9') : isBetween(sign, '0', '2');
    }

    private static boolean isBetween(int value, int least, int most) {
        return value >= least && value <= most;
    }

    private int commandLength(int at) {
        int length = fixedLength(signAt(at));
        if (signAt(at) != 'v') {
            return length;
        }
        if (signAt(at + length) == 'x') {
            length++;
        }
        if (signAt(at + length) == 'f') {
            length++;
        }
        return length;
    }

    /** Does a command of the text, if that is possible; tells whether it was. */
    private boolean doCommand(int at) {
        switch (signAt(at)) {
            case 'l':
                return present.addLane();
            case 'v':
                return doArrival(at);
            case 'b':
                return present.changeLoop(digitAt(at + 1), true);
            case 'm':
                return present.mendArm(digitAt(at + 1));
            case 't':
                return present.letTicksGo(twoDigitsAt(at + 1));
            default:
                return false;
        }
    }

    private boolean doArrival(int at) {
        boolean lost = signAt(at + 4) == 'x';
        boolean follower = signAt(lost ? at + 5 : at + 4) == 'f';
        return present.addVehicle(digitAt(at + 1), twoDigitsAt(at + 2), lost, follower);
    }

    // ---- what there is

    public int about(int what) throws IllegalArgumentException {
        if (what < LANES || what > LOST_LET) {
            throw new IllegalArgumentException("what is 0 to 9");
        }
        if (what == LANES) {
            return present.laneCount;
        }
        return what == TICKS ? present.ticks : present.total(what);
    }

    public int laneOf(int l, int what) throws IndexOutOfBoundsException, IllegalArgumentException {
        checkLane(l);
        if (what < 0 || what > 7) {
            throw new IllegalArgumentException("what is 0 to 7");
        }
        return present.lanes[l].number(what);
    }

    public int vehicle(int l, int k, int what) throws IndexOutOfBoundsException, IllegalArgumentException {
        checkVehicle(l, k);
        if (what < 0 || what > 4) {
            throw new IllegalArgumentException("what is 0 to 4");
        }
        return present.lanes[l].numberOfVehicle(k, what);
    }

    public int why(int l) throws IndexOutOfBoundsException {
        checkLane(l);
        return present.lanes[l].reason();
    }

    public int setting(int what) throws IllegalArgumentException {
        if (what < 0 || what >= SETTINGS) {
            throw new IllegalArgumentException("a setting is 0 to 2");
        }
        return present.settings[what];
    }

    private void checkLane(int l) {
        if (!present.hasLane(l)) {
            throw new IndexOutOfBoundsException("there is no such lane");
        }
    }

    private void checkVehicle(int l, int k) {
        checkLane(l);
        if (!present.lanes[l].hasVehicle(k)) {
            throw new IndexOutOfBoundsException("there is no such vehicle");
        }
    }

    private static void checkLength(int length) {
        if (length < SHORTEST || length > LONGEST) {
            throw new IllegalArgumentException("a length is 2 to 12");
        }
    }

    // ---- actions

    public int lane() throws IllegalStateException {
        if (present.laneCount >= MOST_LANES) {
            throw new IllegalStateException("there are 3 lanes");
        }
        remember();
        present.addLane();
        return present.laneCount - 1;
    }

    public int arrive(int l, int length, boolean lost, boolean follower)
            throws IndexOutOfBoundsException, IllegalArgumentException, IllegalStateException {
        checkLane(l);
        checkLength(length);
        if (present.lanes[l].vehicles >= MOST_VEHICLES) {
            throw new IllegalStateException("there are 6 vehicles in the lane");
        }
        remember();
        present.addVehicle(l, length, lost, follower);
        return present.lanes[l].vehicles;
    }

    public int loop(int l, boolean broken) throws IndexOutOfBoundsException {
        checkLane(l);
        remember();
        present.changeLoop(l, broken);
        return present.total(BROKEN_LOOPS);
    }

    public int mend(int l) throws IndexOutOfBoundsException, IllegalStateException {
        checkLane(l);
        if (!present.lanes[l].canBeMended()) {
            throw new IllegalStateException("the arm is whole, or a vehicle is under it");
        }
        remember();
        present.mendArm(l);
        return present.lanes[l].height;
    }

    public int run(int n) throws IllegalArgumentException {
        if (n < 1 || n > LONGEST_RUN) {
            throw new IllegalArgumentException("a run is 1 to 60 ticks");
        }
        remember();
        int before = present.total(LET_THROUGH) + present.total(SLIPPED);
        present.letTicksGo(n);
        return present.total(LET_THROUGH) + present.total(SLIPPED) - before;
    }

    public int set(int what, int v) throws IllegalArgumentException {
        if (!isSetting(what, v)) {
            throw new IllegalArgumentException("no setting, or a value out of its range");
        }
        remember();
        int previous = present.settings[what];
        present.changeSetting(what, v);
        return previous;
    }

    public int undo() throws IllegalStateException {
        if (rememberedCount <= 0) {
            throw new IllegalStateException("no state is remembered");
        }
        rememberedCount--;
        present.copyFrom(remembered[(oldest + rememberedCount) % MOST_REMEMBERED]);
        return rememberedCount;
    }

    private static boolean isSetting(int what, int v) {
        switch (what) {
            case CHECK_TICKS:
                return isBetween(v, 1, 20);
            case LOST_CHECK_TICKS:
                return isBetween(v, 1, 60);
            case ADDED_HOLD:
                return isBetween(v, 0, 20);
            default:
                return false;
        }
    }

    private void remember() {
        remembered[(oldest + rememberedCount) % MOST_REMEMBERED].copyFrom(present);
        if (rememberedCount < MOST_REMEMBERED) {
            rememberedCount++;
        } else {
            oldest = (oldest + 1) % MOST_REMEMBERED;
        }
    }

    private void forgetAll() {
        oldest = 0;
        rememberedCount = 0;
    }

    // ---- what would be

    public int emptyIn(int l) throws IndexOutOfBoundsException {
        checkLane(l);
        copy.copyFrom(present);
        Lane lane = copy.lanes[l];
        for (int t = 0; t <= MOST_AHEAD; t++) {
            if (lane.vehicles == 0) {
                return t;
            }
            lane.tick(copy.settings);
        }
        return NONE;
    }

    public int throughIn(int l, int k) throws IndexOutOfBoundsException {
        checkVehicle(l, k);
        copy.copyFrom(present);
        return copyThroughIn(l, k);
    }

    public int bestLane(int length) throws IllegalArgumentException {
        checkLength(length);
        int best = NONE;
        int soonest = MOST_AHEAD + 1;
        for (int l = 0; l < present.laneCount; l++) {
            copy.copyFrom(present);
            if (copy.addVehicle(l, length, false, false)) {
                int t = copyThroughIn(l, copy.lanes[l].vehicles - 1);
                if (t != NONE && t < soonest) {
                    best = l;
                    soonest = t;
                }
            }
        }
        return best;
    }

    public int coming(int n, int what) throws IllegalArgumentException {
        if (n < 1 || n > MOST_AHEAD) {
            throw new IllegalArgumentException("n is 1 to 400");
        }
        if (what < 0 || what > 4) {
            throw new IllegalArgumentException("what is 0 to 4");
        }
        copy.copyFrom(present);
        int up = 0;
        for (int t = 0; t < n; t++) {
            copy.letTicksGo(1);
            up += copy.armsUp();
        }
        switch (what) {
            case 0:
                return copy.total(LET_THROUGH) - present.total(LET_THROUGH);
            case 1:
                return copy.total(SLIPPED) - present.total(SLIPPED);
            case 2:
                return copy.total(HITS) - present.total(HITS);
            case 3:
                return copy.total(VEHICLES);
            default:
                return up;
        }
    }

    public int hitsIn(int l) throws IndexOutOfBoundsException {
        checkLane(l);
        copy.copyFrom(present);
        copy.changeLoop(l, true);
        Lane lane = copy.lanes[l];
        int before = lane.hits;
        for (int t = 1; t <= MOST_AHEAD; t++) {
            lane.tick(copy.settings);
            if (lane.hits > before) {
                return t;
            }
        }
        return NONE;
    }

    /** Lets ticks go by on the copy until a vehicle has gone through. */
    private int copyThroughIn(int l, int k) {
        Lane lane = copy.lanes[l];
        int passedAndK = lane.passed + k;
        for (int t = 0; t <= MOST_AHEAD; t++) {
            // Vehicles that pass move the others on to lower places.
            if (lane.hasGoneThrough(passedAndK - lane.passed)) {
                return t;
            }
            lane.tick(copy.settings);
        }
        return NONE;
    }

    // ---- scripts, simulations

    public int runScript(int n, long script) throws IllegalArgumentException {
        if (n < 1 || n > MOST_GROUPS) {
            throw new IllegalArgumentException("a script has 1 to 3 commands");
        }
        if (script < 0 || withoutGroups(script, n) != 0) {
            throw new IllegalArgumentException("the script is negative or too long");
        }
        copy.copyFrom(present);
        for (int i = 0; i < n; i++) {
            if (!doGroup((int) (withoutGroups(script, n - 1 - i) % GROUP))) {
                return i;
            }
        }
        return NONE;
    }

    public int simulate(long seed, int m) throws IllegalArgumentException {
        if (m < 1 || m > MOST_TURNS) {
            throw new IllegalArgumentException("m is 1 to 60");
        }
        copy.copyFrom(present);
        long x = seed;
        for (int i = 0; i < m; i++) {
            x = x * 6364136223846793005L + 1442695040888963407L;
            doTurn((int) (x >>> 33));
        }
        int hits = copy.total(HITS) - present.total(HITS);
        int slipped = copy.total(SLIPPED) - present.total(SLIPPED);
        int passed = copy.total(PASSED) - present.total(PASSED);
        return 10000 * hits + 100 * slipped + Math.min(passed, 99);
    }

    private static long withoutGroups(long script, int count) {
        long rest = script;
        for (int i = 0; i < count; i++) {
            rest /= GROUP;
        }
        return rest;
    }

    /** Does a command of a script on the copy; tells whether it succeeds. */
    private boolean doGroup(int group) {
        int d2 = group / 1000 % 10;
        int d3 = group / 100 % 10;
        int d4 = group / 10 % 10;
        int d5 = group % 10;
        switch (group / 10000) {
            case 1:
                return d5 <= 3 && copy.addVehicle(d2, 10 * d3 + d4, d5 == 1 || d5 == 3, d5 >= 2);
            case 2:
                return d2 == 0 && d3 == 0 && copy.letTicksGo(10 * d4 + d5);
            case 3:
                return d3 <= 1 && d4 == 0 && d5 == 0 && copy.changeLoop(d2, d3 == 1);
            case 4:
                return d3 == 0 && d4 == 0 && d5 == 0 && copy.mendArm(d2);
            case 5:
                return d5 == 0 && copy.changeSetting(d2, 10 * d3 + d4);
            case 6:
                return d4 == 0 && d5 == 0 && copy.hasLane(d2) && copy.lanes[d2].height == d3;
            case 7:
                return d3 == 0 && d4 == 0 && copy.hasLane(d2) && copy.lanes[d2].vehicles <= d5;
            case 8:
                return d2 == 0 && d3 == 0 && copy.total(SLIPPED) <= 10 * d4 + d5;
            case 9:
                return d3 == 0 && d4 == 0 && copy.hasLane(d2) && copy.lanes[d2].reason() == d5;
            default:
                return false;
        }
    }

    /** Does a turn of a simulation on the copy; what is not possible is left out. */
    private void doTurn(int r) {
        int q = r / 8;
        switch (r % 8) {
            case 0:
            case 1:
            case 2:
                copy.addVehicle(q % 3, 2 + q / 4 % 11, q / 64 % 8 == 0, q / 512 % 4 == 0);
                break;
            case 3:
                copy.changeLoop(q % 3, q / 4 % 4 == 0);
                break;
            case 4:
                copy.mendArm(q % 3);
                break;
            default:
                copy.letTicksGo(1 + q % 20);
                break;
        }
    }

    // ---- save slots

    public int save(int slot) throws IndexOutOfBoundsException {
        checkSlot(slot);
        slots[slot].copyFrom(present);
        saved[slot] = true;
        return present.ticks;
    }

    public int restore(int slot) throws IndexOutOfBoundsException, IllegalStateException {
        checkSlot(slot);
        if (!saved[slot]) {
            throw new IllegalStateException("nothing has been saved in this slot");
        }
        present.copyFrom(slots[slot]);
        forgetAll();
        return present.ticks;
    }

    private static void checkSlot(int slot) {
        if (slot < 0 || slot >= SLOTS) {
            throw new IndexOutOfBoundsException("a save slot is 0 or 1");
        }
    }

    /**
     * Everything that undo takes back. The methods that change it tell whether the change was possible, and change
     * nothing if it was not: text, scripts and simulations leave such a change out, the face throws ahead of it.
     */
    private static final class Gate {
        final Lane[] lanes = new Lane[MOST_LANES];
        final int[] settings = new int[SETTINGS];
        int laneCount;
        int ticks;

        Gate() {
            for (int l = 0; l < MOST_LANES; l++) {
                lanes[l] = new Lane();
            }
            clear();
        }

        void clear() {
            laneCount = 0;
            ticks = 0;
            settings[CHECK_TICKS] = 3;
            settings[LOST_CHECK_TICKS] = 12;
            settings[ADDED_HOLD] = 2;
        }

        void copyFrom(Gate other) {
            laneCount = other.laneCount;
            ticks = other.ticks;
            System.arraycopy(other.settings, 0, settings, 0, SETTINGS);
            for (int l = 0; l < MOST_LANES; l++) {
                lanes[l].copyFrom(other.lanes[l]);
            }
        }

        boolean hasLane(int l) {
            return l >= 0 && l < laneCount && l < MOST_LANES;
        }

        boolean addLane() {
            if (laneCount >= MOST_LANES) {
                return false;
            }
            // The row may still hold a lane that was there before a load.
            lanes[laneCount].clear();
            laneCount++;
            return true;
        }

        boolean addVehicle(int l, int length, boolean lost, boolean follower) {
            if (!hasLane(l) || length < SHORTEST || length > LONGEST) {
                return false;
            }
            return lanes[l].addVehicle(length, lost, follower);
        }

        boolean changeLoop(int l, boolean broken) {
            if (!hasLane(l)) {
                return false;
            }
            lanes[l].loopBroken = broken;
            return true;
        }

        boolean mendArm(int l) {
            if (!hasLane(l) || !lanes[l].canBeMended()) {
                return false;
            }
            lanes[l].armBroken = false;
            return true;
        }

        boolean letTicksGo(int n) {
            if (n < 1 || n > LONGEST_RUN) {
                return false;
            }
            for (int t = 0; t < n; t++) {
                ticks++;
                for (int l = 0; l < laneCount; l++) {
                    lanes[l].tick(settings);
                }
            }
            return true;
        }

        boolean changeSetting(int what, int v) {
            if (!isSetting(what, v)) {
                return false;
            }
            settings[what] = v;
            return true;
        }

        int total(int what) {
            int sum = 0;
            for (int l = 0; l < laneCount; l++) {
                sum += lanes[l].tally(what);
            }
            return sum;
        }

        int armsUp() {
            int count = 0;
            for (int l = 0; l < laneCount; l++) {
                if (lanes[l].height == FULL_HEIGHT) {
                    count++;
                }
            }
            return count;
        }
    }

    /** A lane with its arm; its vehicles stand in rows, the first one at the index 0. */
    private static final class Lane {
        final int[] lengths = new int[MOST_VEHICLES];
        final int[] fronts = new int[MOST_VEHICLES];
        final boolean[] lost = new boolean[MOST_VEHICLES];
        final boolean[] follower = new boolean[MOST_VEHICLES];
        final boolean[] let = new boolean[MOST_VEHICLES];
        int vehicles;
        int height;
        int hold;
        int learned;
        int checkedFor;
        boolean loopBroken;
        boolean armBroken;
        int passed;
        int letThrough;
        int slipped;
        int hits;
        int lostLet;

        Lane() {
            clear();
        }

        void clear() {
            vehicles = 0;
            height = 0;
            hold = 0;
            learned = FIRST_LEARNED;
            checkedFor = 0;
            loopBroken = false;
            armBroken = false;
            passed = 0;
            letThrough = 0;
            slipped = 0;
            hits = 0;
            lostLet = 0;
        }

        void copyFrom(Lane other) {
            for (int k = 0; k < MOST_VEHICLES; k++) {
                copyVehicle(other, k, k);
            }
            vehicles = other.vehicles;
            height = other.height;
            hold = other.hold;
            learned = other.learned;
            checkedFor = other.checkedFor;
            loopBroken = other.loopBroken;
            armBroken = other.armBroken;
            passed = other.passed;
            letThrough = other.letThrough;
            slipped = other.slipped;
            hits = other.hits;
            lostLet = other.lostLet;
        }

        private void copyVehicle(Lane other, int from, int to) {
            lengths[to] = other.lengths[from];
            fronts[to] = other.fronts[from];
            lost[to] = other.lost[from];
            follower[to] = other.follower[from];
            let[to] = other.let[from];
        }

        boolean hasVehicle(int k) {
            return k >= 0 && k < vehicles && k < MOST_VEHICLES;
        }

        private int lastCell(int k) {
            return fronts[k] - lengths[k] + 1;
        }

        boolean addVehicle(int length, boolean hasLost, boolean follows) {
            int k = vehicles;
            if (k < 0 || k >= MOST_VEHICLES) {
                return false;
            }
            lengths[k] = length;
            fronts[k] = k == 0 ? -1 : Math.min(-1, lastCell(k - 1) - 2);
            lost[k] = hasLost;
            follower[k] = follows;
            let[k] = false;
            vehicles++;
            return true;
        }

        /** No lane depends on another one: what would be in a lane needs the ticks of that lane alone. */
        void tick(int[] settings) {
            moveVehicles();
            checkTicket(settings[CHECK_TICKS], settings[LOST_CHECK_TICKS], settings[ADDED_HOLD]);
            if (!armBroken) {
                moveArm(reason() != 0);
            }
            hitIfUnderArm();
            countThrough();
        }

        private void moveVehicles() {
            for (int k = 0; k < vehicles; k++) {
                if (canMove(k)) {
                    fronts[k]++;
                }
            }
            // Vehicles stand behind each other, so no second one can pass in the same tick.
            if (vehicles > 0 && lastCell(0) > LAST_CELL) {
                removeFirst();
                passed++;
            }
        }

        private boolean canMove(int k) {
            int next = fronts[k] + 1;
            if (k > 0 && lastCell(k - 1) < next + 1) {
                return false;
            }
            return fronts[k] != STOP_CELL || height == FULL_HEIGHT && (let[k] || follower[k]);
        }

        private void removeFirst() {
            for (int k = 1; k < vehicles; k++) {
                copyVehicle(this, k, k - 1);
            }
            vehicles--;
        }

        private void checkTicket(int checkTicks, int lostCheckTicks, int addedHold) {
            int k = vehicleInCheck();
            if (k == NONE) {
                checkedFor = 0;
                return;
            }
            checkedFor++;
            if (checkedFor >= (lost[k] ? lostCheckTicks : checkTicks)) {
                let[k] = true;
                hold = learned / 8 + addedHold;
                checkedFor = 0;
                if (lost[k]) {
                    lostLet++;
                }
            }
        }

        private int vehicleInCheck() {
            for (int k = 0; k < vehicles; k++) {
                if (fronts[k] == STOP_CELL && !let[k]) {
                    return k;
                }
            }
            return NONE;
        }

        private void moveArm(boolean up) {
            height = up ? Math.min(FULL_HEIGHT, height + 1) : Math.max(0, height - 1);
            if (height == FULL_HEIGHT) {
                hold = Math.max(0, hold - 1);
            }
        }

        /** Why the arm should be up: what why() answers. */
        int reason() {
            if (armBroken) {
                return ARM_BROKEN;
            }
            if (letVehicleWaits()) {
                return LET_WAITS;
            }
            if (!loopBroken && isLoopCovered()) {
                return LOOP_COVERED;
            }
            return hold > 0 ? HELD : 0;
        }

        private boolean letVehicleWaits() {
            for (int k = 0; k < vehicles; k++) {
                if (let[k] && fronts[k] <= STOP_CELL) {
                    return true;
                }
            }
            return false;
        }

        private boolean isLoopCovered() {
            for (int k = 0; k < vehicles; k++) {
                if (fronts[k] >= ARM_CELL && lastCell(k) <= BEHIND_ARM_CELL) {
                    return true;
                }
            }
            return false;
        }

        private boolean isUnderArm() {
            for (int k = 0; k < vehicles; k++) {
                if (fronts[k] >= ARM_CELL && lastCell(k) <= ARM_CELL) {
                    return true;
                }
            }
            return false;
        }

        private void hitIfUnderArm() {
            if (!armBroken && height < FULL_HEIGHT && isUnderArm()) {
                armBroken = true;
                hits++;
            }
        }

        /** A vehicle whose front is beyond the stop always moves on, so its last cell is 21 behind one tick only. */
        private void countThrough() {
            for (int k = 0; k < vehicles; k++) {
                if (lastCell(k) == BEHIND_ARM_CELL) {
                    if (let[k]) {
                        letThrough++;
                        learned += (8 * lengths[k] - learned) / 4;
                    } else {
                        slipped++;
                    }
                }
            }
        }

        boolean hasGoneThrough(int k) {
            return hasVehicle(k) && lastCell(k) >= BEHIND_ARM_CELL;
        }

        boolean canBeMended() {
            return armBroken && !isUnderArm();
        }

        private int countUnlet() {
            int count = 0;
            for (int k = 0; k < vehicles; k++) {
                if (!let[k] && fronts[k] <= STOP_CELL) {
                    count++;
                }
            }
            return count;
        }

        /** What laneOf() answers. */
        int number(int what) {
            switch (what) {
                case 0:
                    return vehicles;
                case 1:
                    return height;
                case 2:
                    return hold;
                case 3:
                    return learned;
                case 4:
                    return loopBroken ? 1 : 0;
                case 5:
                    return armBroken ? 1 : 0;
                case 6:
                    return checkedFor;
                default:
                    return countUnlet();
            }
        }

        /** What vehicle() answers. */
        int numberOfVehicle(int k, int what) {
            if (!hasVehicle(k)) {
                return NONE;
            }
            switch (what) {
                case 0:
                    return lengths[k];
                case 1:
                    return fronts[k];
                case 2:
                    return lost[k] ? 1 : 0;
                case 3:
                    return follower[k] ? 1 : 0;
                default:
                    return let[k] ? 1 : 0;
            }
        }

        /** What this lane adds to a number of about(). */
        int tally(int what) {
            switch (what) {
                case VEHICLES:
                    return vehicles;
                case PASSED:
                    return passed;
                case LET_THROUGH:
                    return letThrough;
                case SLIPPED:
                    return slipped;
                case HITS:
                    return hits;
                case BROKEN_ARMS:
                    return armBroken ? 1 : 0;
                case BROKEN_LOOPS:
                    return loopBroken ? 1 : 0;
                case LOST_LET:
                    return lostLet;
                default:
                    return 0;
            }
        }
    }
}
