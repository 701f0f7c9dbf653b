/** What the tests share: a tally of wrong answers, and short ways to tell texts. */
final class Check {
    private final String test;
    private int wrong;

    Check(String test) {
        this.test = test;
    }

    void due(String call, long got, long want) {
        if (got != want) {
            fail(call + " answered " + got + ", due is " + want);
        }
    }

    void fail(String why) {
        wrong++;
        System.out.println(test + ": " + why);
    }

    /** Ends the test, with exit code 1 if an answer was wrong. */
    void end() {
        if (wrong != 0) {
            System.out.println(test + ": " + wrong + " answers are not as due");
            System.exit(1);
        }
    }

    static void write(SieveTub tub, String text) {
        for (int i = 0; i < text.length(); i++) {
            tub.write(text.charAt(i));
        }
    }

    /** A new object that has been told the text. */
    static SieveTub tell(String text) {
        SieveTub tub = new SieveTub();
        write(tub, text);
        if (tub.well() < 0) {
            throw new IllegalStateException("the test's own text has a fault: " + text);
        }
        return tub;
    }

    /** All that calls tell of the state without changing it, to see that nothing changed. */
    static String state(SieveTub tub) {
        StringBuilder all = new StringBuilder();
        for (int what = 0; what <= 10; what++) {
            all.append(tub.count(what)).append(' ');
        }
        for (int s = 0; s < tub.count(0); s++) {
            for (int what = 0; what <= 9; what++) {
                all.append(tub.sister(s, what)).append(' ');
            }
        }
        return all.toString();
    }

    /** A call that is due to be refused, and after which all is due to be as it was ahead of it. */
    void refused(String call, SieveTub tub, java.util.function.IntSupplier answer, int want) {
        String ahead = state(tub);
        due(call, answer.getAsInt(), want);
        String behind = state(tub);
        if (!ahead.equals(behind)) {
            fail(call + " was refused but changed " + ahead + "to " + behind);
        }
    }
}
