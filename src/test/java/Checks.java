/** Counts the answers that are not the ones due, and prints them. */
final class Checks {
    interface Call {
        long answer();
    }

    interface Deed {
        void run();
    }

    private int checked;
    private int wrong;

    void due(String call, double got, double want) {
        checked++;
        if (got != want) {
            wrong++;
            System.out.println(call + " answered " + got + ", due is " + want);
        }
    }

    void dueText(String call, String got, String want) {
        checked++;
        if (!got.equals(want)) {
            wrong++;
            System.out.println(call + " answered " + got + ", due is " + want);
        }
    }

    /** The class itself is due, none below it: the machine throws those. */
    void dueThrow(String call, Class<? extends RuntimeException> kind, Deed deed) {
        dueText(call, thrownBy(deed), kind.getSimpleName());
    }

    void noSuch(String call, Deed deed) {
        dueThrow(call, IndexOutOfBoundsException.class, deed);
    }

    void outOfRange(String call, Deed deed) {
        dueThrow(call, IllegalArgumentException.class, deed);
    }

    void notNow(String call, Deed deed) {
        dueThrow(call, IllegalStateException.class, deed);
    }

    private static String thrownBy(Deed deed) {
        try {
            deed.run();
            return "nothing thrown";
        } catch (RuntimeException e) {
            return e.getClass().getSimpleName();
        }
    }

    static String answerOf(Call call) {
        try {
            return Long.toString(call.answer());
        } catch (RuntimeException e) {
            return e.getClass().getSimpleName();
        }
    }

    void end(String test) {
        System.out.println(test + ": " + checked + " answers checked, " + wrong + " not as due");
        if (wrong != 0 || checked == 0) {
            System.exit(1);
        }
    }
}
