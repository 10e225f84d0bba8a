/** Counts what tests find, and tells each answer that is not the one that is due. */
final class Check {
    interface Call {
        long answer();
    }

    private final String name;
    private int right;
    private int wrong;

    Check(String name) {
        this.name = name;
    }

    void due(String what, long got, long want) {
        if (got == want) {
            right++;
        } else {
            tell(what + " answered " + got + ", due is " + want);
        }
    }

    void fails(String what, Class<? extends RuntimeException> want, Call call) {
        String got;
        try {
            got = "answered " + call.answer();
        } catch (RuntimeException e) {
            if (e.getClass() == want) {
                right++;
                return;
            }
            got = "threw " + e.getClass().getSimpleName();
        }
        tell(what + " " + got + ", due is " + want.getSimpleName());
    }

    void tell(String message) {
        wrong++;
        if (wrong <= 40) {
            System.out.println(name + ": " + message);
        }
    }

    void end() {
        System.out.println(name + ": " + right + " answers as due, " + wrong + " not");
        System.exit(wrong == 0 ? 0 : 1);
    }
}
