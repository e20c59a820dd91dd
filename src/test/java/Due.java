/** Holds answers against what is due, prints those that differ, and ends the test with exit code 1 if one did. */
final class Due {
    private int asked;
    private int wrong;

    void is(String call, long got, long want) {
        asked++;
        if (got != want) {
            wrong++;
            System.out.println(call + " answered " + got + ", due is " + want);
        }
    }

    /** An answer that is not refused leaves STATUS 0. */
    void made(SowingHouse house, String call, long got, long want) {
        is(call, got, want);
        is(call + ": status()", house.status(), 0);
    }

    /** A refused call answers BAD, and STATUS tells why. */
    void refused(SowingHouse house, String call, long got, int why) {
        is(call, got, SowingHouse.BAD);
        is(call + ": status()", house.status(), why);
    }

    void holds(String what, boolean held) {
        asked++;
        if (!held) {
            wrong++;
            System.out.println("does not hold: " + what);
        }
    }

    int wrong() {
        return wrong;
    }

    void end() {
        System.out.println(asked + " answers looked at, " + wrong + " not as due");
        if (wrong > 0) {
            System.exit(1);
        }
    }
}
