/** Counts the answers that are not as due, and prints each of them. */
final class Checks {
    /** A call of the map whose answer does not matter. */
    interface Call {
        void run();
    }

    private final String name;
    private int asked = 0;
    private int wrong = 0;

    Checks(String name) {
        this.name = name;
    }

    void same(String what, long got, long due) {
        asked++;
        if (got != due) {
            wrong++;
            System.out.println(what + ": answered " + got + ", due is " + due);
        }
    }

    void same(String what, boolean got, boolean due) {
        same(what, got ? 1 : 0, due ? 1 : 0);
    }

    void same(String what, String got, String due) {
        asked++;
        if (!got.equals(due)) {
            wrong++;
            System.out.println(what + ": answered\n" + got + "due is\n" + due);
        }
    }

    /** Any answer will do, but no exception. */
    void answers(String what, Call call) {
        asked++;
        try {
            call.run();
        } catch (RuntimeException e) {
            wrong++;
            System.out.println(what + ": throws " + e.getClass().getName());
        }
    }

    void outOfRange(SegmentMap map, String what, Call call) {
        refused(map, what, IllegalArgumentException.class, call);
    }

    void notNow(SegmentMap map, String what, Call call) {
        refused(map, what, IllegalStateException.class, call);
    }

    void noSuch(SegmentMap map, String what, Call call) {
        refused(map, what, IndexOutOfBoundsException.class, call);
    }

    /**
     * The very exception is due, not one of its kind, thrown by the map's own code and not by the
     * machine or the library for it; and the map stays as it was.
     */
    private void refused(SegmentMap map, String what, Class<?> due, Call call) {
        String before = Picture.whole(map);
        String got = "nothing\n";
        try {
            call.run();
        } catch (RuntimeException e) {
            got = e.getClass().getName() + "\n";
            String thrower = e.getStackTrace()[0].getClassName();
            same(what + " is thrown in SegmentMap", thrower + "\n", "SegmentMap\n");
        }
        same(what + " throws", got, due.getName() + "\n");
        same("all after " + what, Picture.whole(map), before);
    }

    void finish() {
        System.out.println(name + ": " + asked + " answers, " + wrong + " of them not as due");
        if (wrong != 0 || asked == 0) {
            System.exit(1);
        }
    }
}
