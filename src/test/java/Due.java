/** Counts and tells the answers that are not the ones that are due. */
final class Due {
    interface Call {
        long answer();
    }

    interface Maker {
        LorryArms make();
    }

    /** A gate tick by tick. A new object is made every few ticks, as the document promises 512 calls of each. */
    static final class Walk {
        private static final int STEPS = 8;

        private final Maker maker;
        private LorryArms x;
        private int made;
        private int tick;

        Walk(Maker maker) {
            this.maker = maker;
        }

        /** The gate when so many ticks have gone by, not fewer than asked for before. */
        LorryArms at(int t) {
            if (x == null || t >= made + STEPS) {
                x = maker.make();
                go(x, t);
                made = t;
                tick = t;
            }
            for (; tick < t; tick++) {
                x.run(1);
            }
            return x;
        }
    }

    private static int asked = 0;
    private static int wrong = 0;
    private static String sentence = "";

    private Due() {
    }

    /** A call's answer as text; an exception is told by its name behind throws. */
    static String of(Call call) {
        try {
            return Long.toString(call.answer());
        } catch (RuntimeException e) {
            return "throws." + e.getClass().getSimpleName();
        }
    }

    /** The sentence of the document that the next answers are due by; it is told with those that are wrong. */
    static void by(String words) {
        sentence = " by: " + words;
    }

    static void same(String what, String got, String want) {
        asked++;
        if (!got.equals(want)) {
            wrong++;
            System.out.println(what + " answered " + got + ", due is " + want + sentence);
        }
    }

    static void is(String what, long want, Call call) {
        same(what, of(call), Long.toString(want));
    }

    static void outside(String what, Call call) {
        same(what, of(call), "throws.IndexOutOfBoundsException");
    }

    static void illegal(String what, Call call) {
        same(what, of(call), "throws.IllegalArgumentException");
    }

    static void notNow(String what, Call call) {
        same(what, of(call), "throws.IllegalStateException");
    }

    /** Every number that can be asked of a gate, one after the other: two equal texts mean the same state. */
    static String whole(LorryArms x) {
        StringBuilder b = new StringBuilder();
        for (int what = 0; what <= 9; what++) {
            b.append(x.about(what)).append(' ');
        }
        for (int what = 0; what <= 2; what++) {
            b.append(x.setting(what)).append(' ');
        }
        for (int l = 0; l < x.about(0); l++) {
            b.append("| ");
            for (int what = 0; what <= 7; what++) {
                b.append(x.laneOf(l, what)).append(' ');
            }
            for (int k = 0; k < x.laneOf(l, 0); k++) {
                b.append(": ");
                for (int what = 0; what <= 4; what++) {
                    b.append(x.vehicle(l, k, what)).append(' ');
                }
            }
        }
        return b.toString();
    }

    static void write(LorryArms x, String text) {
        x.clearText();
        for (int i = 0; i < text.length(); i++) {
            x.append(text.charAt(i));
        }
    }

    static LorryArms loaded(String text) {
        LorryArms x = new LorryArms();
        write(x, text);
        x.load();
        return x;
    }

    static void go(LorryArms x, int ticks) {
        for (int left = ticks; left > 0; left -= 60) {
            x.run(Math.min(60, left));
        }
    }

    /** A gate as the text makes it, when so many ticks have gone by. */
    static LorryArms at(int tick, String text) {
        LorryArms x = loaded(text);
        go(x, tick - x.about(1));
        return x;
    }

    static void end(String test) {
        System.out.println(test + ": " + asked + " answers, " + wrong + " wrong");
        System.exit(wrong == 0 && asked > 0 ? 0 : 1);
    }
}
