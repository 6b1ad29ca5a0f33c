/** What the tests share: a count of the answers that are not as due. */
final class Due {
    private int asked = 0;
    private int wrong = 0;

    void is(String call, long got, long want) {
        asked++;
        if (got != want) {
            wrong++;
            System.out.println(call + " answered " + got + ", due is " + want);
        }
    }

    void floatIs(String call, int got, float want) {
        is(call, got, Float.floatToIntBits(want));
    }

    void doubleIs(String call, long got, double want) {
        is(call, got, Double.doubleToLongBits(want));
    }

    void holds(String what, boolean so) {
        is(what, so ? 1 : 0, 1);
    }

    boolean isFailed() {
        return wrong > 0;
    }

    /** Ends the test; a test that asked nothing fails, too. */
    void end() {
        System.out.println(asked + " answers, " + wrong + " not as due");
        if (wrong > 0 || asked == 0) {
            System.exit(1);
        }
    }

    /** THE TEXT becomes this one. */
    static void write(AnalogDays x, String text) {
        x.clear();
        for (int i = 0; i < text.length(); i++) {
            x.type(text.charAt(i));
        }
    }

    static int read(AnalogDays x, String text) {
        write(x, text);
        return x.reads();
    }
}
