/** Counts and tells the answers that are not the ones that are due. */
final class Due {
    interface Call {
        long answer();
    }

    private static int asked = 0;
    private static int wrong = 0;

    private Due() {
    }

    /** A call's answer as text; an exception is told by its name behind throws. */
    static String of(Call call) {
        try {
            return Long.toString(call.answer());
        } catch (RuntimeException e) {
            return "throws." + e.getClass().getSimpleName();
        }
    }

    static void same(String what, String got, String want) {
        asked++;
        if (!got.equals(want)) {
            wrong++;
            System.out.println(what + " answered " + got + ", due is " + want);
        }
    }

    static void is(String what, long want, Call call) {
        same(what, of(call), Long.toString(want));
    }

    static void outside(String what, Call call) {
        same(what, of(call), "throws.IndexOutOfBoundsException");
    }

    static void illegal(String what, Call call) {
        same(what, of(call), "throws.IllegalArgumentException");
    }

    static void notNow(String what, Call call) {
        same(what, of(call), "throws.IllegalStateException");
    }

    /** Every number that can be asked of a gate, one after the other: two equal texts mean the same state. */
    static String whole(LorryArms x) {
        StringBuilder b = new StringBuilder();
        for (int what = 0; what <= 9; what++) {
            b.append(x.about(what)).append(' ');
        }
        for (int what = 0; what <= 2; what++) {
            b.append(x.setting(what)).append(' ');
        }
        for (int l = 0; l < x.about(0); l++) {
            b.append("| ");
            for (int what = 0; what <= 7; what++) {
                b.append(x.laneOf(l, what)).append(' ');
            }
            for (int k = 0; k < x.laneOf(l, 0); k++) {
                b.append(": ");
                for (int what = 0; what <= 4; what++) {
                    b.append(x.vehicle(l, k, what)).append(' ');
                }
            }
        }
        return b.toString();
    }

    static void write(LorryArms x, String text) {
        x.clearText();
        for (int i = 0; i < text.length(); i++) {
            x.append(text.charAt(i));
        }
    }

    static LorryArms loaded(String text) {
        LorryArms x = new LorryArms();
        write(x, text);
        x.load();
        return x;
    }

    static void end(String test) {
        System.out.println(test + ": " + asked + " answers, " + wrong + " wrong");
        System.exit(wrong == 0 && asked > 0 ? 0 : 1);
    }
}
