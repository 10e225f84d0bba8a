/**
 * Looks at two camps that should be alike, from all sides. Each look takes camps that are made for it: none is asked
 * more than the 512 calls that are promised.
 */
final class Look {
    interface Make {
        TentCamp camp();
    }

    private static final int SIDES = 9;
    private final TentCamp camp;
    private final StringBuilder answers = new StringBuilder();

    private Look(TentCamp camp) {
        this.camp = camp;
    }

    /** The two must answer alike, to looks and to later calls. */
    static void alike(Check check, String what, Make one, Make other) {
        for (int side = 0; side < SIDES; side++) {
            check.same(what + ", looked at from side " + side, from(side, one.camp()), from(side, other.camp()));
        }
    }

    private static String from(int side, TentCamp camp) {
        Look look = new Look(camp);
        switch (side) {
            case 0 -> look.text();
            case 1 -> look.tents();
            case 2 -> look.fields(0);
            case 3 -> look.questions();
            case 4 -> look.spareValues();
            case 5 -> look.states();
            case 6 -> look.slots();
            case 7 -> look.load();
            default -> look.actions();
        }
        return look.answers.toString();
    }

    private void ask(Check.Call call) {
        try {
            answers.append(call.answer());
        } catch (RuntimeException e) {
            answers.append(e.getClass().getSimpleName());
        }
        answers.append(' ');
    }

    private void abouts() {
        for (int what = 0; what <= 13; what++) {
            int w = what;
            ask(() -> camp.about(w));
        }
    }

    private void text() {
        abouts();
        for (int i = 0; i < camp.about(3); i++) {
            for (int what = 0; what <= 2; what++) {
                answers.append(camp.frame(i, what)).append(' ');
            }
        }
        for (int i = 0; i <= 26; i++) {
            answers.append(camp.spare(i)).append(' ');
        }
        ask(camp::errorPosition);
        ask(() -> camp.append('x'));
        ask(camp::errorPosition);
        ask(camp::clearText);
        ask(camp::clearText);
    }

    private void tents() {
        for (int t = 0; t < camp.about(0); t++) {
            for (int what = 0; what <= 4; what++) {
                answers.append(camp.tent(t, what)).append(' ');
            }
        }
    }

    private void fields(int from) {
        int count = camp.about(1);
        for (int f = from; f < count; f++) {
            int places = camp.field(f, 0);
            answers.append(places).append(": ");
            for (int what = 1; what <= 4; what++) {
                answers.append(camp.field(f, what)).append(' ');
            }
            for (int k = 0; k < places; k++) {
                answers.append(camp.place(f, k)).append(' ');
            }
        }
    }

    private void questions() {
        for (int size : new int[] {1, 7, 16, 33, 40}) {
            for (int step : new int[] {1, 8}) {
                ask(() -> camp.where(size, step));
                ask(() -> camp.more(size, step));
            }
        }
        for (int i = 0; i < camp.about(3); i++) {
            int frame = i;
            ask(() -> camp.givenUp(frame));
        }
        ask(camp::bestSize);
        for (long seed = 0; seed < 40; seed++) {
            long x = seed;
            ask(() -> camp.simulate(x * x * x * 1234567890123L, 1 + (int) x * 2));
        }
        for (long script : new long[] {100118000190003L, 200002000110011L, 300004000050007L, 600027000080003L}) {
            ask(() -> camp.runScript(3, script));
        }
    }

    /** Spare fields show their values when they come into use. */
    private void spareValues() {
        int before = camp.about(1);
        for (int n = 0; n < 8 && camp.spare(0) != -1; n++) {
            int size = Math.min(camp.spare(0), 40);
            ask(() -> camp.pitch(size, 8));
        }
        fields(before);
    }

    private void states() {
        for (int i = 0; i < 16; i++) {
            ask(camp::undo);
            abouts();
            ask(() -> camp.place(0, 0));
        }
    }

    private void slots() {
        for (int slot = 1; slot >= 0; slot--) {
            int s = slot;
            ask(() -> camp.restore(s));
            abouts();
            ask(() -> camp.place(0, 0));
            ask(camp::undo);
        }
    }

    private void load() {
        ask(camp::load);
        abouts();
        ask(() -> camp.restore(0));
        ask(() -> camp.restore(1));
        ask(camp::undo);
    }

    private void actions() {
        ask(camp::enter);
        ask(() -> camp.pitch(3, 2));
        ask(() -> camp.pitch(20, 1));
        ask(() -> camp.fill(0, 5));
        abouts();
        ask(camp::leave);
        abouts();
        ask(() -> camp.jump(0));
        abouts();
        ask(() -> camp.set(1, 5));
        ask(() -> camp.jump(0));
        ask(camp::leave);
        abouts();
        ask(camp::undo);
        abouts();
    }
}
