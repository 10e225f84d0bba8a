/** What every test of sentences needs: a count of answers, and short names. Each test runs in a machine of its own. */
class Due {
    static final Class<IllegalArgumentException> ARGUMENT = IllegalArgumentException.class;
    static final Class<IllegalStateException> STATE = IllegalStateException.class;
    static final Class<IndexOutOfBoundsException> INDEX = IndexOutOfBoundsException.class;
    static final int NONE = -1;
    static final int[] STEPS = {1, 2, 4, 8};
    /** Numbers that are too small for every argument. */
    static final int[] TOO_SMALL = {-1, -2, -256, -65536, Integer.MIN_VALUE, Integer.MIN_VALUE + 1};
    /** Numbers that are too great for every argument; cut to a byte or a short some of them are not. */
    static final int[] TOO_GREAT = {256, 257, 264, 512, 65536, 65537, 65544, Integer.MAX_VALUE - 1, Integer.MAX_VALUE};

    static Check check;

    /** What follows tests this sentence, which must stand in the document word by word. */
    static void sentence(String words) {
        check.sentence(words);
    }

    static void due(String what, long got, long want) {
        check.due(what, got, want);
    }

    static void fails(String what, Class<? extends RuntimeException> want, Check.Call call) {
        check.fails(what, want, call);
    }

    /** A call with one argument. */
    interface Of {
        long answer(int argument);
    }

    /** The call fails with each number that is too small or too great, whatever it is for. */
    static void failsBeyond(String what, Class<? extends RuntimeException> want, Of call) {
        for (int n : TOO_SMALL) {
            fails(what + " " + n, want, () -> call.answer(n));
        }
        for (int n : TOO_GREAT) {
            fails(what + " " + n, want, () -> call.answer(n));
        }
    }

    /** The call answers from the first number to the last one, and fails with the two beside them. */
    static void range(String what, int first, int last, Class<? extends RuntimeException> want, Of call) {
        for (int n = first; n <= last; n++) {
            try {
                call.answer(n);
                due(what + " " + n, 1, 1);
            } catch (RuntimeException e) {
                check.tell(what + " " + n + " threw " + e);
            }
        }
        fails(what + " " + (first - 1), want, () -> call.answer(first - 1));
        fails(what + " " + (last + 1), want, () -> call.answer(last + 1));
        failsBeyond(what, want, call);
    }

    /** The first number from e on that s divides. */
    static int up(int e, int s) {
        return (e + s - 1) / s * s;
    }

    static String two(int n) {
        return n < 10 ? "0" + n : "" + n;
    }

    static String three(int n) {
        return n < 100 ? "0" + two(n) : "" + n;
    }
}
