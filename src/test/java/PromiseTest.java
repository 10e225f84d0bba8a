/** Each promise of the document on its own: ordinary inputs, the edges that it names, wrong inputs. */
public final class PromiseTest {
    private static final Class<IllegalArgumentException> ARGUMENT = IllegalArgumentException.class;
    private static final Class<IllegalStateException> STATE = IllegalStateException.class;
    private static final Class<IndexOutOfBoundsException> INDEX = IndexOutOfBoundsException.class;
    private static final int[] EXTREMES = {Integer.MIN_VALUE, -1, Integer.MAX_VALUE};
    private static final int NONE = -1;
    private static final Check check = new Check("PromiseTest");

    private PromiseTest() { }

    public static void main(String[] args) {
        newObject();
        append();
        clearText();
        errorPosition();
        load();
        about();
        highWater();
        tent();
        field();
        place();
        spare();
        spareOrder();
        frame();
        pitch();
        pitchOnSpares();
        fill();
        enter();
        leave();
        jump();
        givingUp();
        set();
        undo();
        where();
        givenUp();
        bestSize();
        more();
        runScript();
        scriptGroups();
        simulate();
        save();
        restore();
        check.end();
    }

    private static void due(String what, long got, long want) {
        check.due(what, got, want);
    }

    private static void fails(String what, Class<? extends RuntimeException> want, Check.Call call) {
        check.fails(what, want, call);
    }

    private static TentCamp withText(String text) {
        TentCamp camp = new TentCamp();
        for (int i = 0; i < text.length(); i++) {
            camp.append(text.charAt(i));
        }
        return camp;
    }

    private static TentCamp loaded(String text) {
        TentCamp camp = withText(text);
        camp.load();
        return camp;
    }

    /** Compares what about(0), about(1), .. answer. */
    private static void abouts(String what, TentCamp camp, int... wants) {
        for (int i = 0; i < wants.length; i++) {
            due(what + ": about(" + i + ")", camp.about(i), wants[i]);
        }
    }

    private static void newObject() {
        due("NONE", TentCamp.NONE, -1);
        abouts("new", new TentCamp(), 0, 0, 0, 0, 0, 0, 0, 0, 0, 0, 0, 16, 32, 1);
        due("new: clearText", new TentCamp().clearText(), 0);
        fails("new: undo", STATE, () -> new TentCamp().undo());
        fails("new: restore", STATE, () -> new TentCamp().restore(0));
        // Two objects have nothing in common.
        TentCamp one = new TentCamp();
        TentCamp other = new TentCamp();
        one.pitch(3, 1);
        due("other object", other.about(0), 0);
    }

    private static void append() {
        TentCamp camp = new TentCamp();
        due("append 0", camp.append(0), 1);
        due("append 255", camp.append(255), 2);
        fails("append -1", ARGUMENT, () -> camp.append(-1));
        fails("append 256", ARGUMENT, () -> camp.append(256));
        for (int i = 2; i < 100; i++) {
            due("append", camp.append('e'), i + 1);
        }
        fails("append to a full text", STATE, () -> camp.append('e'));
        fails("append: the argument counts first", ARGUMENT, () -> camp.append(256));
        due("the full text stays", camp.clearText(), 100);
        due("append after clearText", camp.append('T'), 1);
    }

    private static void clearText() {
        TentCamp camp = withText("T16032");
        due("clearText", camp.clearText(), 6);
        due("clearText again", camp.clearText(), 0);
        due("no text", camp.errorPosition(), 0);
        camp.append('T');
        due("a new text", camp.errorPosition(), 1);
    }

    private static void fault(String text, int want) {
        due("errorPosition of " + text, withText(text).errorPosition(), want);
    }

    private static void errorPosition() {
        fault("", 0);
        fault("t", 0);
        fault("T", 1);
        fault("T0", 2);
        fault("T07", 2);
        fault("T7", 1);
        fault("T65", 2);
        fault("T6", 2);
        fault("T08", 3);
        fault("T64", 3);
        fault("T642", 3);
        fault("T641", 4);
        fault("T6413", 4);
        fault("T64129", 5);
        fault("T64128", NONE);
        fault("T64119", NONE);
        fault("T64099", NONE);
        fault("T64000", NONE);
        fault("T64000 ", 6);
        fault("T64000P", 6);
        fault("T64000a", 6);
        fault("T64000p", 7);
        fault("T64000p5", 7);
        fault("T64000p00", 8);
        fault("T64000p41", 8);
        fault("T64000p40", 9);
        fault("T64000p400", 9);
        fault("T64000p403", 9);
        fault("T64000p409", 9);
        fault("T64000p408", NONE);
        fault("T64000p011p092p994", 15);
        fault("T64000p011p094p398", NONE);
        fault("T64000e5", 7);
        fault("T64000eelx", NONE);
        fault("T64000j", 7);
        fault("T64000j8", 7);
        fault("T64000j7", NONE);
        fault("T64000f3", 7);
        fault("T64000f24", 8);
        fault("T64000f23", 9);
        fault("T64000f239", 10);
        fault("T64000f2399", NONE);
        fault("T64000f0000", NONE);
        fault("T64000f00x0", 9);
        fault("T/9", 1);
        fault("T:9", 1);
        // A wrong sign stays the first one, whatever follows.
        fault("X64000", 0);
        fault("T6X000e", 2);
        fault("T64000" + "e".repeat(94), NONE);
        fault("T64000" + "e".repeat(93) + "j", 100);
        due("errorPosition changes nothing", withText("T64000").about(11), 16);
    }

    private static void load() {
        fails("load no text", STATE, () -> new TentCamp().load());
        TentCamp camp = new TentCamp();
        camp.pitch(5, 1);
        camp.save(1);
        camp.append('T');
        fails("load half a text", STATE, () -> camp.load());
        due("a failed load changes nothing", camp.about(0), 1);
        due("a failed load keeps the slots", camp.restore(1), 1);
        camp.enter();
        camp.append('0');
        camp.append('8');
        for (char c : "128xp051ef0007p051f0308llj0".toCharArray()) {
            camp.append(c);
        }
        // f03 (no such tent), the second l and j0 (no frame) are left out.
        due("load", camp.load(), 3);
        abouts("loaded", camp, 1, 1, 1, 0, 5, 5, 5, 0, 10, 10, 1, 8, 128, 0);
        due("loaded value", camp.place(0, 4), 7);
        fails("load forgets the states", STATE, () -> camp.undo());
        fails("load empties slot 0", STATE, () -> camp.restore(0));
        fails("load empties slot 1", STATE, () -> camp.restore(1));
        due("load again: as in a new object", camp.load(), 3);
        abouts("loaded again", camp, 1, 1, 1, 0, 5, 5, 5, 0, 10, 10, 1, 8, 128, 0);
        due("load keeps the text", camp.clearText(), 30);
        abouts("no commands", loaded("T64128"), 0, 0, 0, 0, 0, 0, 0, 0, 0, 0, 0, 64, 128, 1);
        TentCamp used = withText("T64000");
        used.enter();
        used.pitch(9, 1);
        used.leave();
        used.set(2, 0);
        due("load into a used one", used.load(), 0);
        abouts("load into a used one", used, 0, 0, 0, 0, 0, 0, 0, 0, 0, 0, 0, 64, 0, 1);
        due("e, 8 at most", withText("T16032" + "e".repeat(10)).load(), 2);
        due("p, 24 at most", withText("T64032" + "p011".repeat(23)).load(), 0);
        TentCamp full = withText("T64032" + "p408".repeat(8) + "p011");
        // 40 is more than half of 64: 6 big fields of 40 fit, and behind them no usual one of 64.
        due("p, 256 places at most", full.load(), 3);
        abouts("full", full, 6, 6, 0, 0, 240, 240, 0, 0);
    }

    private static void about() {
        TentCamp camp = loaded("T16020p031p058f0107ep044p201f0350p121");
        abouts("about", camp, 5, 3, 0, 1, 44, 52, 0, 8, 44, 52, 0, 16, 20, 1);
        camp.leave();
        abouts("about after leave", camp, 2, 1, 1, 0, 8, 16, 16, 5, 44, 52, 3, 16, 20, 1);
        for (int what : EXTREMES) {
            fails("about " + what, ARGUMENT, () -> camp.about(what));
        }
        fails("about 14", ARGUMENT, () -> camp.about(14));
        // Places of a big field are no gaps, also if it is greater than its tent.
        TentCamp big = new TentCamp();
        big.set(1, 128);
        big.enter();
        big.pitch(20, 1);
        big.jump(0);
        big.pitch(10, 1);
        abouts("big field", big, 1, 1, 0, 1, 10, 20, 0, 0);
        due("big field", big.field(0, 1), 1);
        big.pitch(5, 1);
        big.pitch(5, 8);
        // Behind the last tent of the last usual field no gap lies, also if a big field is behind it.
        due("gap ahead of the last tent", big.about(7), 3);
        big.pitch(30, 1);
        due("big fields make no gaps", big.about(7), 3);
        big.pitch(8, 1);
        due("gaps behind the last tent", big.about(7), 3 + 3);
    }

    private static void highWater() {
        TentCamp camp = new TentCamp();
        camp.set(1, 0);
        camp.enter();
        camp.pitch(40, 1);
        camp.pitch(10, 1);
        camp.leave();
        abouts("high water", camp, 0, 0, 0, 0, 0, 0, 0, 0, 50, 50, 2);
        camp.pitch(3, 1);
        abouts("high water stays", camp, 1, 1, 0, 0, 3, 16, 0, 0, 50, 50, 2);
        camp.undo();
        camp.undo();
        abouts("high water of the state before", camp, 2, 2, 0, 1, 50, 50, 0, 0, 50, 50, 0);
        camp.undo();
        abouts("one tent back", camp, 1, 1, 0, 1, 40, 40, 0, 0, 40, 40, 0);
        camp.simulate(9, 99);
        camp.more(40, 1);
        abouts("trials leave no high water", camp, 1, 1, 0, 1, 40, 40, 0, 0, 40, 40, 0);
    }

    private static void tent() {
        TentCamp camp = new TentCamp();
        fails("tent 0 of none", INDEX, () -> camp.tent(0, 0));
        camp.pitch(3, 1);
        camp.enter();
        camp.enter();
        camp.pitch(5, 4);
        camp.pitch(10, 8);
        int[][] wants = {{0, 0, 3, 1, NONE}, {0, 4, 5, 4, 1}, {1, 0, 10, 8, 1}};
        for (int t = 0; t < 3; t++) {
            for (int what = 0; what < 5; what++) {
                due("tent(" + t + ", " + what + ")", camp.tent(t, what), wants[t][what]);
            }
        }
        fails("tent -1", INDEX, () -> camp.tent(-1, 0));
        fails("tent 3", INDEX, () -> camp.tent(3, 0));
        fails("tent 0, -1", ARGUMENT, () -> camp.tent(0, -1));
        fails("tent 0, 5", ARGUMENT, () -> camp.tent(0, 5));
        fails("tent: the index counts first", INDEX, () -> camp.tent(3, 5));
        camp.jump(0);
        camp.pitch(1, 1);
        due("tent behind frame 0", camp.tent(1, 4), 0);
        camp.enter();
        due("a frame that was entered later", camp.tent(1, 4), 0);
        fails("a struck tent", INDEX, () -> camp.tent(2, 0));
    }

    private static void field() {
        TentCamp camp = new TentCamp();
        fails("field 0 of none", INDEX, () -> camp.field(0, 0));
        camp.enter();
        camp.pitch(3, 1);
        camp.pitch(4, 8);
        camp.jump(0);
        camp.pitch(2, 1);
        camp.pitch(17, 1);
        int[][] wants = {{16, 0, 1, 14, 7}, {17, 1, 1, 0, 0}};
        for (int f = 0; f < 2; f++) {
            for (int what = 0; what < 5; what++) {
                due("field(" + f + ", " + what + ")", camp.field(f, what), wants[f][what]);
            }
        }
        camp.pitch(4, 1);
        due("two tents on a field", camp.field(0, 2), 2);
        due("behind the last tent", camp.field(0, 3), 10);
        camp.fill(2, 50);
        due("poison that is left", camp.field(0, 4), 6);
        fails("field 2", INDEX, () -> camp.field(2, 0));
        fails("field -1", INDEX, () -> camp.field(-1, 0));
        fails("field 0, 5", ARGUMENT, () -> camp.field(0, 5));
        fails("field 0, -1", ARGUMENT, () -> camp.field(0, -1));
        fails("field: the index counts first", INDEX, () -> camp.field(2, 5));
    }

    private static void place() {
        TentCamp camp = new TentCamp();
        fails("place of no field", INDEX, () -> camp.place(0, 0));
        camp.pitch(3, 1);
        camp.pitch(2, 4);
        camp.fill(0, 99);
        camp.fill(1, 1);
        int[] wants = {99, 99, 99, 0, 1, 1, 0};
        for (int k = 0; k < wants.length; k++) {
            due("place(0, " + k + ")", camp.place(0, k), wants[k]);
        }
        due("the last place", camp.place(0, 15), 0);
        fails("place 16", INDEX, () -> camp.place(0, 16));
        for (int k : EXTREMES) {
            fails("place " + k, INDEX, () -> camp.place(0, k));
            fails("field " + k, INDEX, () -> camp.place(k, 0));
        }
        camp.pitch(20, 1);
        camp.fill(2, 5);
        due("a field of its own", camp.place(1, 19), 5);
        due("and the one ahead stays", camp.place(0, 15), 0);
        fails("place 20 of the big one", INDEX, () -> camp.place(1, 20));
    }

    private static void spare() {
        TentCamp camp = new TentCamp();
        due("no spare field", camp.spare(0), NONE);
        due("far behind", camp.spare(Integer.MAX_VALUE), NONE);
        fails("spare -1", ARGUMENT, () -> camp.spare(-1));
        fails("spare least", ARGUMENT, () -> camp.spare(Integer.MIN_VALUE));
        camp.set(1, 128);
        camp.enter();
        camp.pitch(30, 1);
        camp.pitch(5, 1);
        camp.pitch(20, 1);
        camp.jump(0);
        int[] wants = {16, 20, 30, NONE};
        for (int i = 0; i < wants.length; i++) {
            due("spare(" + i + ")", camp.spare(i), wants[i]);
        }
    }

    /** Of like spare fields the one that became spare first is taken, and the last one is given up. */
    private static void spareOrder() {
        TentCamp camp = new TentCamp();
        camp.set(1, 128);
        camp.set(2, 0);
        camp.enter();
        for (int v = 1; v <= 3; v++) {
            camp.pitch(16, 1);
            camp.fill(v - 1, v);
        }
        camp.jump(0);
        // The last field became spare first: 3, 2, 1.
        camp.pitch(16, 1);
        due("the first of like ones", camp.place(0, 0), 3);
        camp.set(1, 16);
        camp.enter();
        camp.jump(1);
        due("one is given up", camp.about(6), 16);
        camp.pitch(16, 1);
        due("the one that became spare last is gone", camp.place(1, 0), 2);
        due("nothing is left", camp.about(2), 0);
    }

    private static void frame() {
        TentCamp camp = new TentCamp();
        fails("frame 0 of none", INDEX, () -> camp.frame(0, 0));
        camp.enter();
        camp.pitch(5, 1);
        camp.pitch(17, 1);
        camp.enter();
        camp.pitch(2, 1);
        int[][] wants = {{0, 0, 24}, {2, 2, 2}};
        for (int i = 0; i < 2; i++) {
            for (int what = 0; what < 3; what++) {
                due("frame(" + i + ", " + what + ")", camp.frame(i, what), wants[i][what]);
            }
        }
        fails("frame -1", INDEX, () -> camp.frame(-1, 0));
        fails("frame 2", INDEX, () -> camp.frame(2, 0));
        fails("frame 0, -1", ARGUMENT, () -> camp.frame(0, -1));
        fails("frame 0, 3", ARGUMENT, () -> camp.frame(0, 3));
        fails("frame: the index counts first", INDEX, () -> camp.frame(2, 3));
    }

    private static void pitch() {
        TentCamp camp = new TentCamp();
        int[][] wrongs = {{0, 1}, {41, 1}, {-1, 1}, {5, 0}, {5, 3}, {5, 5}, {5, 6}, {5, 7}, {5, 9}, {5, 16}, {5, -1}, {5, -8}};
        for (int[] w : wrongs) {
            fails("pitch(" + w[0] + ", " + w[1] + ")", ARGUMENT, () -> camp.pitch(w[0], w[1]));
        }
        due("8 of 16 are not big", camp.pitch(8, 1), 0);
        due("8 of 16 are not big", camp.field(0, 1), 0);
        due("fits to the end", camp.pitch(8, 8), 1);
        due("fits to the end", camp.tent(1, 1), 8);
        due("9 of 16 are big", camp.pitch(9, 1), 2);
        due("9 of 16 are big", camp.field(1, 1), 1);
        due("a big field has as many places", camp.field(1, 0), 9);
        due("not on the big one", camp.pitch(1, 1), 3);
        due("but on a usual one", camp.field(2, 1), 0);
        due("a great tent on the last usual field", camp.pitch(12, 4), 4);
        due("its place", camp.tent(4, 1), 4);
        due("its field", camp.tent(4, 0), 2);
        camp.set(0, 17);
        camp.pitch(8, 1);
        due("half is rounded down", camp.field(3, 1), 0);
        due("the usual size as it is then", camp.field(3, 0), 17);
        camp.set(0, 64);
        camp.pitch(40, 1);
        due("40 of 64 are big", camp.field(4, 1), 1);
        TentCamp many = new TentCamp();
        for (int t = 0; t < 24; t++) {
            due("pitch", many.pitch(1, 1), t);
        }
        fails("the 25th tent", STATE, () -> many.pitch(1, 1));
        fails("the argument counts first", ARGUMENT, () -> many.pitch(0, 1));
        due("nothing has changed", many.about(4), 24);
        due("only actions are remembered", many.undo(), 13);
        pitchToTheBrim();
    }

    private static void pitchToTheBrim() {
        TentCamp camp = new TentCamp();
        for (int t = 0; t < 6; t++) {
            camp.pitch(40, 1);
        }
        fails("257 places", STATE, () -> camp.pitch(17, 1));
        due("256 places", camp.pitch(16, 1), 6);
        fails("no place is left", STATE, () -> camp.pitch(1, 1));
        due("256 places", camp.about(9), 256);
        // A big field of the least size there is: 5 of 8.
        TentCamp small = new TentCamp();
        small.set(0, 8);
        for (int t = 0; t < 24; t++) {
            due("small pitch", small.pitch(5, 1), t);
        }
        due("24 fields", small.about(1), 24);
        due("and 27 more", small.more(5, 1), 27);
    }

    private static void pitchOnSpares() {
        TentCamp camp = new TentCamp();
        camp.set(1, 128);
        camp.enter();
        camp.pitch(30, 1);
        camp.pitch(20, 1);
        camp.pitch(9, 1);
        camp.jump(0);
        camp.pitch(10, 1);
        due("the smallest that is great enough", camp.field(0, 0), 20);
        due("it is big, as the tent is", camp.field(0, 1), 1);
        due("its values stay", camp.place(0, 0), 100);
        camp.pitch(2, 1);
        due("the smallest of all", camp.field(1, 0), 9);
        due("now it is usual", camp.field(1, 1), 0);
        camp.pitch(7, 1);
        due("and takes more tents", camp.tent(2, 0), 1);
        camp.pitch(1, 1);
        due("then the next spare one", camp.field(2, 0), 30);
        due("usual too", camp.pitch(28, 2), 4);
        due("up to its end", camp.tent(4, 1), 2);
        due("no spare one is left", camp.about(2), 0);
        due("nothing new was needed", camp.about(9), 59);
        // Spare fields count for the 256.
        TentCamp full = new TentCamp();
        full.set(1, 128);
        full.pitch(40, 1);
        full.pitch(40, 1);
        full.pitch(40, 1);
        full.pitch(40, 1);
        full.enter();
        full.pitch(40, 1);
        full.pitch(40, 1);
        full.jump(0);
        due("80 are spare", full.about(6), 80);
        full.pitch(16, 1);
        due("the tent takes one of 40", full.field(4, 0), 40);
        full.pitch(30, 1);
        due("and the next the other", full.field(5, 0), 40);
        fails("a new one of 17 is too much", STATE, () -> full.pitch(17 + 16, 1));
    }

    private static void fill() {
        TentCamp camp = new TentCamp();
        fails("fill no tent", INDEX, () -> camp.fill(0, 0));
        camp.enter();
        camp.pitch(5, 1);
        camp.leave();
        camp.pitch(2, 1);
        camp.pitch(4, 2);
        due("fill poison", camp.fill(1, 99), 3);
        due("fill again", camp.fill(1, 0), 0);
        due("its first place", camp.place(0, 2), 0);
        due("its last place", camp.place(0, 5), 0);
        due("ahead of it", camp.place(0, 1), 100);
        due("fill the first", camp.fill(0, 7), 2);
        due("its last place", camp.place(0, 1), 7);
        due("behind it", camp.place(0, 2), 0);
        fails("fill -1", ARGUMENT, () -> camp.fill(0, -1));
        fails("fill 100", ARGUMENT, () -> camp.fill(0, 100));
        fails("fill tent 2", INDEX, () -> camp.fill(2, 0));
        fails("fill tent -1", INDEX, () -> camp.fill(-1, 0));
        fails("fill: the index counts first", INDEX, () -> camp.fill(2, 100));
    }

    private static void enter() {
        TentCamp camp = new TentCamp();
        for (int i = 0; i < 8; i++) {
            due("enter", camp.enter(), i);
        }
        fails("enter a ninth", STATE, () -> camp.enter());
        due("8 frames", camp.about(3), 8);
        due("only actions are remembered", camp.undo(), 7);
        due("7 frames", camp.about(3), 7);
    }

    private static void leave() {
        TentCamp camp = new TentCamp();
        fails("leave nothing", STATE, () -> camp.leave());
        camp.pitch(3, 1);
        camp.enter();
        due("leave an empty frame", camp.leave(), 0);
        camp.fill(0, 9);
        camp.enter();
        camp.enter();
        camp.pitch(5, 8);
        camp.pitch(6, 1);
        due("leave the last one", camp.leave(), 2);
        due("it is gone", camp.about(3), 1);
        due("tents that stood stay", camp.place(0, 2), 9);
        due("poison", camp.place(0, 8), 100);
        due("between them", camp.place(0, 7), 0);
        due("the last tent is another", camp.field(0, 3), 13);
        due("pitched where one stood", camp.pitch(5, 1), 1);
        due("its place", camp.tent(1, 1), 3);
        due("leave the other", camp.leave(), 1);
        fails("none is left", STATE, () -> camp.leave());
        due("struck in all", camp.about(10), 3);
    }

    private static void jump() {
        TentCamp camp = new TentCamp();
        fails("jump without frames", INDEX, () -> camp.jump(0));
        camp.enter();
        camp.pitch(3, 1);
        camp.enter();
        camp.pitch(4, 1);
        camp.enter();
        camp.pitch(10, 1);
        fails("jump 3", INDEX, () -> camp.jump(3));
        for (int i : EXTREMES) {
            fails("jump " + i, INDEX, () -> camp.jump(i));
        }
        due("jump to the last", camp.jump(2), 1);
        due("it stays", camp.about(3), 3);
        due("jump again", camp.jump(2), 0);
        due("jump to the first", camp.jump(0), 2);
        due("later ones are gone", camp.about(3), 1);
        due("no tents", camp.about(0), 0);
        due("no fields", camp.about(1), 0);
        camp.set(2, 0);
        camp.pitch(4, 1);
        camp.fill(0, 55);
        camp.jump(0);
        camp.pitch(1, 1);
        due("without poison values stay", camp.place(0, 3), 55);
        due("also where it was poisoned before", camp.place(0, 4), 100);
    }

    private static void givingUp() {
        TentCamp camp = new TentCamp();
        camp.enter();
        camp.pitch(20, 1);
        camp.pitch(30, 1);
        camp.pitch(12, 1);
        camp.pitch(4, 1);
        camp.fill(2, 12);
        camp.fill(3, 4);
        camp.set(2, 0);
        camp.set(1, 28);
        camp.jump(0);
        // 78 are spare: 30 goes, then 20; 12 and 16 make 28, which is not more than 28.
        due("28 stay", camp.about(6), 28);
        due("two fields", camp.about(2), 2);
        due("the smaller", camp.spare(0), 12);
        due("the greater", camp.spare(1), 16);
        camp.pitch(10, 1);
        camp.pitch(16, 1);
        due("values of the one of 12", camp.place(0, 11), 12);
        due("values of the one of 16", camp.place(1, 3), 4);
        due("values of the one of 16", camp.place(1, 4), 0);
        camp.pitch(9, 1);
        due("a new field is clean", camp.field(2, 4) + camp.place(2, 0), 0);
        camp.jump(0);
        camp.set(1, 0);
        due("a setting gives up nothing", camp.about(2), 2);
        camp.jump(0);
        due("the next striking does", camp.about(2), 0);
        due("all places", camp.about(5) + camp.about(6), 0);
        due("greatest number of all places", camp.about(9), 78);
    }

    private static void set() {
        TentCamp camp = new TentCamp();
        int[][] wrongs = {{-1, 8}, {3, 1}, {0, 7}, {0, 65}, {1, -1}, {1, 129}, {2, -1}, {2, 2}};
        for (int[] w : wrongs) {
            fails("set(" + w[0] + ", " + w[1] + ")", ARGUMENT, () -> camp.set(w[0], w[1]));
        }
        fails("no action so far", STATE, () -> camp.undo());
        camp.pitch(2, 1);
        due("set usual", camp.set(0, 8), 16);
        due("set usual", camp.set(0, 64), 8);
        due("fields stay", camp.field(0, 0), 16);
        due("set keeps", camp.set(1, 0), 32);
        due("set keeps", camp.set(1, 128), 0);
        due("set poison", camp.set(2, 0), 1);
        due("set poison", camp.set(2, 1), 0);
        due("set poison", camp.set(2, 1), 1);
        due("usual", camp.about(11), 64);
        due("keeps", camp.about(12), 128);
        due("poisoned", camp.about(13), 1);
        due("the same value is an action too", camp.undo(), 7);
    }

    private static void undo() {
        TentCamp camp = new TentCamp();
        fails("undo nothing", STATE, () -> camp.undo());
        camp.pitch(3, 1);
        camp.fill(0, 5);
        camp.enter();
        camp.pitch(20, 1);
        camp.set(1, 0);
        camp.jump(0);
        camp.leave();
        due("leave back", camp.undo(), 6);
        due("frames", camp.about(3), 1);
        due("jump back", camp.undo(), 5);
        due("tents", camp.about(0), 2);
        due("struck", camp.about(10), 0);
        due("fields", camp.about(5), 36);
        due("set back", camp.undo(), 4);
        due("keeps", camp.about(12), 32);
        due("pitch back", camp.undo(), 3);
        due("enter back", camp.undo(), 2);
        due("fill back", camp.undo(), 1);
        due("value", camp.place(0, 0), 0);
        due("last one back", camp.undo(), 0);
        due("fields", camp.about(1), 0);
        fails("nothing is left", STATE, () -> camp.undo());
        TentCamp long1 = new TentCamp();
        for (int v = 8; v < 28; v++) {
            long1.set(0, v);
        }
        for (int left = 13; left >= 0; left--) {
            due("undo", long1.undo(), left);
            due("usual size then", long1.about(11), 13 + left);
        }
        fails("only 14 are remembered", STATE, () -> long1.undo());
        long1.set(0, 40);
        due("undo after all were taken back", long1.undo(), 0);
        due("usual size then", long1.about(11), 13);
        long1.append('x');
        long1.save(0);
        fails("text and saving are no actions", STATE, () -> long1.undo());
        due("the text is no part of the state", long1.clearText(), 1);
    }

    private static void where() {
        TentCamp camp = new TentCamp();
        int[][] wrongs = {{0, 1}, {41, 1}, {1, 0}, {1, 3}, {1, 16}, {-5, 1}, {1, -1}};
        for (int[] w : wrongs) {
            fails("where(" + w[0] + ", " + w[1] + ")", ARGUMENT, () -> camp.where(w[0], w[1]));
            fails("more(" + w[0] + ", " + w[1] + ")", ARGUMENT, () -> camp.more(w[0], w[1]));
        }
        due("a new one", camp.where(1, 1), 2);
        camp.pitch(5, 1);
        due("on the last", camp.where(11, 1), 0);
        due("not with this step", camp.where(11, 2), 2);
        due("on the last", camp.where(10, 2), 0);
        due("too great", camp.where(12, 1), 2);
        camp.enter();
        camp.pitch(14, 1);
        camp.leave();
        due("a spare one", camp.where(12, 1), 1);
        due("a spare one", camp.where(14, 8), 1);
        due("the last one first", camp.where(11, 1), 0);
        due("none that great", camp.where(15, 1), 2);
        for (int t = 1; t <= 5; t++) {
            camp.pitch(38, 1);
        }
        // 16 + 14 + 5 * 38 is 220.
        due("to the brim", camp.where(36, 1), 2);
        due("not possible", camp.where(37, 1), 3);
        due("a spare one is there still", camp.where(12, 1), 1);
        due("and the last usual one", camp.where(11, 1), 0);
        TentCamp many = new TentCamp();
        for (int t = 0; t < 24; t++) {
            many.pitch(1, 1);
        }
        due("24 that stand do not matter", many.where(1, 1), 0);
        due("24 that stand do not matter", many.where(20, 1), 2);
    }

    private static void givenUp() {
        TentCamp camp = new TentCamp();
        fails("givenUp without frames", INDEX, () -> camp.givenUp(0));
        camp.set(1, 20);
        camp.enter();
        camp.pitch(20, 1);
        camp.enter();
        camp.pitch(30, 1);
        camp.pitch(3, 1);
        due("behind frame 1: 46, 30 go", camp.givenUp(1), 30);
        due("behind frame 0: 66, 30 and 20 go", camp.givenUp(0), 50);
        due("nothing has changed", camp.about(0), 3);
        fails("givenUp 2", INDEX, () -> camp.givenUp(2));
        fails("givenUp -1", INDEX, () -> camp.givenUp(-1));
        camp.jump(0);
        due("nothing more", camp.givenUp(0), 0);
        camp.set(1, 0);
        due("a new setting", camp.givenUp(0), 16);
    }

    private static void bestSize() {
        due("no tents", new TentCamp().bestSize(), 8);
        TentCamp camp = new TentCamp();
        camp.pitch(5, 1);
        // With 8 and 9 a big field of 5; from 10 on a usual one.
        due("one of 5", camp.bestSize(), 8);
        camp.pitch(3, 8);
        // 5 + 8 with the usual size 8; one field of 11 is enough with 11.
        due("5 and 3 from 8 on", camp.bestSize(), 11);
        camp.enter();
        due("frames do not matter", camp.bestSize(), 11);
        due("nothing has changed", camp.about(11), 16);
        due("no size", noSize().bestSize(), NONE);
    }

    /**
     * 255 places with three usual sizes. With one size it is too much: below 27 the 26 needs a field beside the one
     * that the 1 lies on (259 places at least), from 27 on the 9 needs one more (257 with 57, otherwise more).
     */
    private static TentCamp noSize() {
        TentCamp camp = new TentCamp();
        for (int i = 0; i < 5; i++) {
            camp.pitch(40, 1);
        }
        camp.set(0, 30);
        camp.pitch(16, 1);
        camp.pitch(1, 4);
        camp.pitch(26, 1);
        camp.set(0, 11);
        camp.pitch(9, 8);
        due("with three sizes it goes", camp.about(9), 255);
        return camp;
    }

    private static void more() {
        TentCamp camp = new TentCamp();
        due("16 fields of 16", camp.more(1, 1), 256);
        due("16 fields of 16", camp.more(1, 8), 32);
        due("16 fields of 16", camp.more(8, 8), 32);
        due("28 of 9", camp.more(9, 1), 28);
        due("6 of 40", camp.more(40, 8), 6);
        for (int t = 0; t < 24; t++) {
            camp.pitch(1, 1);
        }
        due("24 that stand do not matter", camp.more(1, 1), 232);
        due("and nothing changes", camp.about(9), 32);
        TentCamp spares = new TentCamp();
        spares.set(1, 128);
        spares.enter();
        spares.pitch(40, 1);
        spares.pitch(40, 1);
        spares.pitch(40, 1);
        spares.leave();
        due("on spare ones too", spares.more(40, 1), 3 + 3);
        due("3 spare ones of 40 first, then 8 of 16", spares.more(5, 1), 3 * 8 + 8 * 3);
        due("nothing has changed", spares.about(2), 3);
    }

    private static void runScript() {
        TentCamp camp = new TentCamp();
        fails("n 0", ARGUMENT, () -> camp.runScript(0, 0));
        fails("n 4", ARGUMENT, () -> camp.runScript(4, 0));
        fails("script -1", ARGUMENT, () -> camp.runScript(1, -1));
        fails("script least", ARGUMENT, () -> camp.runScript(3, Long.MIN_VALUE));
        fails("6 digits", ARGUMENT, () -> camp.runScript(1, 100000));
        fails("11 digits", ARGUMENT, () -> camp.runScript(2, 10000000000L));
        fails("16 digits", ARGUMENT, () -> camp.runScript(3, 1000000000000000L));
        fails("greatest", ARGUMENT, () -> camp.runScript(3, Long.MAX_VALUE));
        due("5 digits", camp.runScript(1, 99999), 0);
        due("15 digits", camp.runScript(3, 999999999999999L), 0);
        due("0 fails", camp.runScript(3, 0), 0);
        due("the highest group is the first", camp.runScript(2, 1005190001L), NONE);
        due("the other way round", camp.runScript(2, 9000110051L), 0);
        due("the second fails", camp.runScript(2, 1005190002L), 1);
        due("the third fails", camp.runScript(3, 100511005190003L), 2);
        due("all three succeed", camp.runScript(3, 100511005190002L), NONE);
        due("zeros before it", camp.runScript(2, 20000L), 0);
        due("on a copy", camp.about(0), 0);
        fails("no action", STATE, () -> camp.undo());
    }

    private static void script(TentCamp camp, int group, boolean succeeds) {
        due("group " + group, camp.runScript(1, group), succeeds ? NONE : 0);
    }

    private static void scriptGroups() {
        TentCamp camp = loaded("T16128p058p028xep201l");
        // Two tents of 7 places on field 0, a gap of 3 between them, a spare field of 20.
        int[] good = {10011, 10408, 10164, 20000, 40000, 40199, 50007, 50999, 60003, 60999, 70000, 70100, 80001, 80099, 90002, 90000};
        int[] bad = {0, 10001, 10411, 10053, 10050, 11011, 19011, 20001, 20002, 20010, 20100, 21000, 30000, 30001, 40200, 49900,
            50006, 51000, 51007, 60002, 61000, 61003, 69999, 70001, 70010, 70200, 79900, 80000, 80101, 81001, 90003, 90100, 91002, 99999};
        for (int group : good) {
            script(camp, group, true);
        }
        for (int group : bad) {
            script(camp, group, false);
        }
        camp.enter();
        script(camp, 20001, true);
        script(camp, 30000, true);
        script(camp, 30001, false);
        script(camp, 30009, false);
        script(camp, 30010, false);
        script(camp, 31000, false);
        for (int i = 1; i < 8; i++) {
            camp.enter();
        }
        script(camp, 20000, false);
        script(camp, 30007, true);
        due("leave, then jump to what is gone", camp.runScript(2, 2000130007L), 1);
        due("fill, then look", camp.runScript(2, 4010790002L), NONE);
        due("the value stays", camp.place(0, 8), 0);
        for (int t = 2; t < 24; t++) {
            camp.pitch(1, 1);
        }
        script(camp, 10011, false);
        script(camp, 90024, true);
        script(camp, 90025, false);
        TentCamp small = loaded("T08032" + "p051".repeat(12));
        script(small, 70909, true);
        // The tent 10 lies on the field 10, but where the 1 is a 0 is written.
        script(small, 71010, false);
    }

    private static void simulate() {
        TentCamp camp = new TentCamp();
        fails("m 0", ARGUMENT, () -> camp.simulate(1, 0));
        fails("m 100", ARGUMENT, () -> camp.simulate(1, 100));
        for (int m : EXTREMES) {
            fails("m " + m, ARGUMENT, () -> camp.simulate(1, m));
        }
        long[] seeds = {0, 1, -1, 5, 3, Long.MIN_VALUE, Long.MAX_VALUE, 123456789012345L};
        TentCamp start = loaded("T10020p031ep044");
        for (long seed : seeds) {
            for (int m = 1; m <= 99; m += 7) {
                due("simulate(" + seed + ", " + m + ")", start.simulate(seed, m), byHand(seed, m));
            }
        }
        due("nothing has changed", start.about(0), 2);
        due("nothing has changed", start.about(10), 0);
        due("the struck ones of before do not count", loaded("T16032ep011l").simulate(1, 1) / 1000, 0);
    }

    /** The same steps as calls of the methods, on an object of its own. */
    private static int byHand(long seed, int m) {
        TentCamp camp = loaded("T10020p031ep044");
        long x = seed;
        for (int i = 0; i < m; i++) {
            x = x * 6364136223846793005L + 1442695040888963407L;
            int r = (int) (x >>> 33);
            int kind = r % 8;
            try {
                if (kind < 2) {
                    camp.enter();
                } else if (kind == 2) {
                    camp.leave();
                } else if (kind == 3) {
                    camp.jump((r / 8) % 8);
                } else {
                    camp.pitch(1 + (r / 8) % 20, 1 << ((r / 256) % 4));
                }
            } catch (IllegalStateException | IndexOutOfBoundsException e) {
                continue;
            }
        }
        return 1000 * camp.about(10) + camp.about(5) + camp.about(6);
    }

    private static void save() {
        TentCamp camp = new TentCamp();
        fails("save 2", INDEX, () -> camp.save(2));
        for (int slot : EXTREMES) {
            fails("save " + slot, INDEX, () -> camp.save(slot));
        }
        due("save nothing", camp.save(0), 0);
        camp.pitch(4, 1);
        camp.fill(0, 8);
        due("save one tent", camp.save(1), 1);
        due("saving is no action", camp.undo(), 1);
        due("restore the one", camp.restore(1), 1);
        due("with its value", camp.place(0, 3), 8);
        due("restore the other", camp.restore(0), 0);
        camp.pitch(1, 1);
        camp.pitch(1, 1);
        due("save over it", camp.save(1), 2);
        camp.fill(0, 3);
        due("restore", camp.restore(1), 2);
        due("the slot has a copy", camp.place(0, 0), 0);
    }

    private static void restore() {
        TentCamp camp = new TentCamp();
        fails("restore 2", INDEX, () -> camp.restore(2));
        for (int slot : EXTREMES) {
            fails("restore " + slot, INDEX, () -> camp.restore(slot));
        }
        fails("restore an empty slot", STATE, () -> camp.restore(1));
        camp.enter();
        camp.set(0, 20);
        camp.set(1, 5);
        camp.set(2, 0);
        camp.pitch(9, 1);
        camp.pitch(30, 1);
        camp.jump(0);
        camp.pitch(9, 1);
        camp.save(0);
        fails("the other one is empty", STATE, () -> camp.restore(1));
        camp.leave();
        camp.set(0, 33);
        camp.set(1, 6);
        camp.set(2, 1);
        due("restore", camp.restore(0), 1);
        abouts("all of it", camp, 1, 1, 0, 1, 9, 20, 0, 0, 39, 50, 2, 20, 5, 0);
        fails("the states are forgotten", STATE, () -> camp.undo());
        camp.leave();
        due("the slot keeps it", camp.restore(0), 1);
        due("the slot keeps it", camp.about(3), 1);
    }
}
