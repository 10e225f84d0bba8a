import java.util.Random;

/** Long mixed runs of calls, each answer held against the model of the document. Seeds are fixed. */
public final class ModelTest {
    private static final int RUNS = 4000;
    // No more are promised.
    private static final int CALLS = 512;
    private static final int[] STEPS = {1, 2, 4, 8};
    private static final Check check = new Check("ModelTest");

    private TentCamp camp = new TentCamp();
    private CampModel model = new CampModel();
    private final Random random;
    private final int mood;
    private final int run;
    private int calls;

    private ModelTest(int run) {
        this.run = run;
        random = new Random(run);
        mood = run % 4;
    }

    public static void main(String[] args) {
        for (int run = 0; run < RUNS; run++) {
            new ModelTest(run).go();
        }
        check.end();
    }

    private void go() {
        if (mood == 3) {
            loadText();
        }
        while (calls < CALLS) {
            int wrong = one();
            if (wrong > 0) {
                return;
            }
        }
    }

    private int one() {
        int a = random.nextInt(12) == 0 ? random.nextInt(60) - 10 : random.nextInt(mood == 1 ? 8 : 24);
        int size = random.nextInt(30) == 0 ? random.nextInt(60) - 10 : 1 + random.nextInt(mood == 2 ? 6 : 1 + random.nextInt(40));
        int step = random.nextInt(30) == 0 ? random.nextInt(20) - 5 : STEPS[random.nextInt(4)];
        int what = random.nextInt(30) == 0 ? random.nextInt(30) - 10 : random.nextInt(5);
        int v = random.nextInt(30) == 0 ? random.nextInt(300) - 100 : random.nextInt(100);
        int slot = random.nextInt(10) == 0 ? random.nextInt(8) - 3 : random.nextInt(2);
        switch (random.nextInt(40)) {
            case 0: case 1: case 2: case 3: case 4: case 5: case 6: case 7: case 8: case 9:
                return same("pitch(" + size + ", " + step + ")", () -> camp.pitch(size, step), () -> model.pitch(size, step));
            case 10: case 11:
                return same("fill(" + a + ", " + v + ")", () -> camp.fill(a, v), () -> model.fill(a, v));
            case 12: case 13: case 14: case 15:
                return same("enter()", () -> camp.enter(), () -> model.enter());
            case 16: case 17:
                return same("leave()", () -> camp.leave(), () -> model.leave());
            case 18: case 19:
                return same("jump(" + a % 9 + ")", () -> camp.jump(a % 9), () -> model.jump(a % 9));
            case 20: case 21:
                return same("undo()", () -> camp.undo(), () -> model.undo());
            case 22:
                return aSetting(v);
            case 23: case 24:
                return same("about(" + (what + a % 10) + ")", () -> camp.about(what + a % 10), () -> model.about(what + a % 10));
            case 25:
                return same("runScript", script());
            case 26: case 27:
                return same("runScript", script());
            case 28: {
                long seed = random.nextLong();
                return same("simulate(" + seed + ", " + v + ")", () -> camp.simulate(seed, v), () -> model.simulate(seed, v));
            }
            case 29:
                return same("save(" + slot + ")", () -> camp.save(slot), () -> model.save(slot));
            case 30:
                return same("restore(" + slot + ")", () -> camp.restore(slot), () -> model.restore(slot));
            case 31:
                return random.nextInt(8) == 0 ? loadText() : 0;
            case 32:
                return same("errorPosition()", () -> camp.errorPosition(), () -> model.errorPosition());
            case 33:
                return same("where(" + size + ", " + step + ")", () -> camp.where(size, step), () -> model.where(size, step));
            case 34:
                return same("more(" + size + ", " + step + ")", () -> camp.more(size, step), () -> model.more(size, step));
            case 35:
                return same("givenUp(" + a % 9 + ")", () -> camp.givenUp(a % 9), () -> model.givenUp(a % 9));
            case 36:
                return same("bestSize()", () -> camp.bestSize(), () -> model.bestSize());
            default:
                return look();
        }
    }

    private int aSetting(int v) {
        int what = random.nextInt(20) == 0 ? random.nextInt(9) - 4 : random.nextInt(3);
        int value = random.nextInt(10) == 0 ? v * 2 - 20 : what == 0 ? 8 + v % 57 : what == 1 ? v : v % 2;
        return same("set(" + what + ", " + value + ")", () -> camp.set(what, value), () -> model.set(what, value));
    }

    private Check.Call[] script() {
        int n = random.nextInt(30) == 0 ? random.nextInt(9) - 4 : 1 + random.nextInt(3);
        long script = 0;
        for (int i = 0; i < n; i++) {
            script = script * 100000 + group();
        }
        long whole = random.nextInt(30) == 0 ? script * 10 - 3 : random.nextInt(60) == 0 ? random.nextLong() : script;
        return new Check.Call[] {() -> camp.runScript(n, whole), () -> model.runScript(n, whole)};
    }

    private int group() {
        int low = random.nextInt(10);
        switch (random.nextInt(11)) {
            case 0: return 10000 + random.nextInt(41) * 10 + STEPS[random.nextInt(4)];
            case 1: return 20000 + random.nextInt(3);
            case 2: return 30000 + low;
            case 3: return 40000 + random.nextInt(25) * 100 + random.nextInt(100);
            case 4: return 50000 + random.nextInt(300);
            case 5: return 60000 + random.nextInt(60);
            case 6: return 70000 + random.nextInt(25) * 100 + low;
            case 7: return 80000 + low;
            case 8: return 90000 + random.nextInt(25);
            default: return random.nextInt(100000);
        }
    }

    private int loadText() {
        StringBuilder text = new StringBuilder();
        text.append('T').append(two(8 + random.nextInt(57))).append("0").append(two(random.nextInt(100)));
        while (text.length() < 94) {
            switch (random.nextInt(9)) {
                case 0: text.append('e'); break;
                case 1: text.append('l'); break;
                case 2: text.append('j').append(random.nextInt(8)); break;
                case 3: text.append('x'); break;
                case 4: text.append('f').append(two(random.nextInt(24))).append(two(random.nextInt(100))); break;
                default: text.append('p').append(two(1 + random.nextInt(40))).append(STEPS[random.nextInt(4)]); break;
            }
        }
        if (random.nextInt(3) == 0) {
            text.setCharAt(random.nextInt(text.length()), "T0123456789pelfjx \0\377".charAt(random.nextInt(20)));
        }
        int wrong = same("clearText()", () -> camp.clearText(), () -> model.clearText());
        for (int i = 0; i < text.length(); i++) {
            char c = text.charAt(i);
            wrong += same("append(" + (int) c + ")", () -> camp.append(c), () -> model.append(c));
        }
        wrong += same("errorPosition() of " + text, () -> camp.errorPosition(), () -> model.errorPosition());
        wrong += same("load() of " + text, () -> camp.load(), () -> model.load());
        return wrong;
    }

    private static String two(int n) {
        return n < 10 ? "0" + n : "" + n;
    }

    /** Looks at all that there is of one kind, and one further each time. */
    private int look() {
        switch (random.nextInt(6)) {
            case 0: return lookAbout();
            case 1: return lookAtTent(random.nextInt(model.now.tents.size() + 2) - 1);
            case 2: return lookAtField(random.nextInt(model.now.inUse.size() + 2) - 1);
            case 3: return lookAtPlaces(random.nextInt(model.now.inUse.size() + 1));
            case 4: return lookAtSpares();
            default: return lookAtFrame(random.nextInt(model.now.frames.size() + 2) - 1);
        }
    }

    private int lookAbout() {
        int wrong = 0;
        for (int what = -1; what <= 14; what++) {
            int w = what;
            wrong += same("about(" + w + ")", () -> camp.about(w), () -> model.about(w));
        }
        return wrong;
    }

    private int lookAtTent(int t) {
        int wrong = 0;
        for (int what = -1; what <= 5; what++) {
            int w = what;
            wrong += same("tent(" + t + ", " + w + ")", () -> camp.tent(t, w), () -> model.tent(t, w));
        }
        return wrong;
    }

    private int lookAtField(int f) {
        int wrong = 0;
        for (int what = -1; what <= 5; what++) {
            int w = what;
            wrong += same("field(" + f + ", " + w + ")", () -> camp.field(f, w), () -> model.field(f, w));
        }
        return wrong;
    }

    private int lookAtPlaces(int f) {
        int wrong = 0;
        int places = f < model.now.inUse.size() ? model.now.inUse.get(f).values.length : 0;
        for (int place = -1; place <= places; place++) {
            int k = place;
            wrong += same("place(" + f + ", " + k + ")", () -> camp.place(f, k), () -> model.place(f, k));
        }
        return wrong;
    }

    private int lookAtSpares() {
        int wrong = 0;
        for (int spare = -1; spare <= model.now.spares.size(); spare++) {
            int i = spare;
            wrong += same("spare(" + i + ")", () -> camp.spare(i), () -> model.spare(i));
        }
        return wrong;
    }

    private int lookAtFrame(int i) {
        int wrong = same("givenUp(" + i + ")", () -> camp.givenUp(i), () -> model.givenUp(i));
        for (int what = -1; what <= 3; what++) {
            int w = what;
            wrong += same("frame(" + i + ", " + w + ")", () -> camp.frame(i, w), () -> model.frame(i, w));
        }
        return wrong;
    }

    private int same(String what, Check.Call[] both) {
        return same(what, both[0], both[1]);
    }

    private int same(String what, Check.Call ours, Check.Call theirs) {
        if (calls >= CALLS) {
            return 0;
        }
        calls++;
        String got = answer(ours);
        String want = answer(theirs);
        if (got.equals(want)) {
            check.due(what, 0, 0);
            return 0;
        }
        check.tell("run " + run + ": " + what + " answered " + got + ", due is " + want);
        return 1;
    }

    private static String answer(Check.Call call) {
        try {
            return Long.toString(call.answer());
        } catch (RuntimeException e) {
            return e.getClass().getName();
        }
    }
}
