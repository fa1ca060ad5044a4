/** Counts and prints answers that are not the ones due, and ends a test with the exit code they ask for. */
final class Check {
    private final String test;
    private int looked;
    private int wrong;

    Check(String test) {
        this.test = test;
    }

    void due(String call, long got, long want) {
        looked++;
        if (got != want) {
            wrong++;
            System.out.println(test + ": " + call + " answered " + got + ", due is " + want);
        }
    }

    void octet(DoorKeys x, int i, int want) {
        looked++;
        try {
            due("octet(" + i + ")", x.octet(i), want);
        } catch (ArrayIndexOutOfBoundsException e) {
            wrong++;
            System.out.println(test + ": octet(" + i + ") throws, due is " + want);
        }
    }

    void noOctet(DoorKeys x, int i) {
        looked++;
        try {
            byte got = x.octet(i);
            wrong++;
            System.out.println(test + ": octet(" + i + ") answered " + got + ", due is a throw");
        } catch (ArrayIndexOutOfBoundsException e) {
            // The class alone is promised; a class below it would break 'exactly what the document says'.
            due("class thrown by octet(" + i + ")",
                    e.getClass() == ArrayIndexOutOfBoundsException.class ? 1 : 0, 1);
            // The machine's own exception names the index; the class throws its own before that.
            due("octet(" + i + ") is thrown by the class, not by the machine", e.getMessage() == null ? 1 : 0, 1);
        }
    }

    /** What doors 0 .. 3 and the boot are, as a text of five digits. */
    void doors(String when, DoorKeys x, String want) {
        for (int i = 0; i < 5; i++) {
            due(when + ": state(" + i + ")", x.state(i), want.charAt(i) - '0');
        }
    }

    int wrongSoFar() {
        return wrong;
    }

    void end() {
        if (looked == 0 || wrong != 0) {
            System.out.println(test + ": " + wrong + " of " + looked + " answers are not as due");
            System.exit(1);
        }
    }
}
