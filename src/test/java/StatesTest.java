import java.util.ArrayDeque;

/** The sentences on what there is, on actions, undo and save slots: the last that is allowed, the first that is not. */
public final class StatesTest extends Due {
    /** Tents on usual and on big fields, gaps, poison, values, frames, spare fields; behind 13 actions. */
    private static final String RICH = "K90 p031 f0009 p018 e e p201 p401 p171 j1 p161 f0233 p021";

    private StatesTest() { }

    public static void main(String[] args) {
        check = new Check("StatesTest");
        newObject();
        aboutRange();
        aboutNumbers();
        mostTentPlaces();
        mostFieldPlaces();
        struckSoFar();
        set();
        setKeeps();
        setUsualAndPoison();
        undoNone();
        undoReturns();
        states14();
        statesInTheRound();
        remembered();
        alsoIfNothingBecomesDifferent();
        undoIsNone();
        noActions();
        notTheText();
        save();
        saveCopies();
        restore();
        restoreForgets();
        restoreSinceLoad();
        slotsApart();
        check.end();
    }

    private static void newObject() {
        sentence("NONE = -1: There is no such result.");
        due("NONE", TentCamp.NONE, -1);
        sentence("Creates a camp without fields, tents and frames.");
        int[] wants = {0, 0, 0, 0, 0, 0, 0, 0, 0, 0, 0, 16, 32, 1};
        TentCamp camp = new TentCamp();
        for (int what = 0; what <= 13; what++) {
            due("about " + what, camp.about(what), wants[what]);
        }
        fails("tent 0", INDEX, () -> camp.tent(0, 0));
        fails("field 0", INDEX, () -> camp.field(0, 0));
        fails("place 0", INDEX, () -> camp.place(0, 0));
        fails("frame 0", INDEX, () -> camp.frame(0, 0));
        due("spare 0", camp.spare(0), NONE);
        fails("fill", INDEX, () -> camp.fill(0, 0));
        fails("leave", STATE, () -> camp.leave());
        fails("jump", INDEX, () -> camp.jump(0));
        fails("givenUp", INDEX, () -> camp.givenUp(0));
        fails("undo", STATE, () -> camp.undo());
        fails("restore 0", STATE, () -> camp.restore(0));
        fails("restore 1", STATE, () -> camp.restore(1));
        fails("load", STATE, () -> camp.load());
        due("errorPosition", camp.errorPosition(), 0);
        due("clearText", camp.clearText(), 0);
        due("where", camp.where(40, 8), 2);
        due("more", camp.more(1, 1), 256);
        due("bestSize", camp.bestSize(), 8);
        due("save", camp.save(0), 0);
        TentCamp other = Camps.of("p401 e s1 tT");
        due("an object of its own", camp.about(1) + camp.about(3), 0);
        fails("a slot of its own", STATE, () -> camp.restore(1));
        due("a text of its own", camp.append('T') + other.clearText(), 2);
    }

    private static void aboutRange() {
        sentence("Throws IllegalArgumentException if what is not 0 to 13");
        TentCamp camp = Camps.of(RICH);
        range("about", 0, 13, ARGUMENT, what -> camp.about(what));
        TentCamp none = new TentCamp();
        range("about", 0, 13, ARGUMENT, what -> none.about(what));
    }

    private static void aboutNumbers() {
        sentence("0: the number of tents; 1: of fields in use; 2: of spare ones; 3: of frames; 4: the places of all tents; 5: of all fields "
            + "in use; 6: of all spare ones; 7: of all gaps");
        sentence("11: the usual size; 12: what the camp keeps; 13: 1 if it is poisoned, otherwise 0");
        int[][] wants = {{4, 2, 2, 2, 22, 33, 60, 5, 81, 93, 3, 16, 90, 1}, {2, 1, 3, 1, 4, 16, 77, 5, 81, 93, 5, 16, 90, 1}};
        TentCamp camp = Camps.of(RICH);
        for (int i = 0; i < 2; i++) {
            for (int what = 0; what <= 13; what++) {
                due("about " + what, camp.about(what), wants[i][what]);
            }
            camp.leave();
        }
        TentCamp full = Camps.of("8*e 6*p401 p161 K128 P0");
        int[] most = {7, 7, 0, 8, 256, 256, 0, 0, 256, 256, 0, 16, 128, 0};
        for (int what = 0; what <= 13; what++) {
            due("about " + what, full.about(what), most[what]);
        }
    }

    private static void mostTentPlaces() {
        sentence("8: the greatest number so far of places of all tents at one time");
        TentCamp camp = Camps.of("e p051 p061");
        due("11 at one time", camp.about(8), 11);
        Camps.go(camp, "j0");
        due("it stays", camp.about(8), 11);
        Camps.go(camp, "p101");
        due("10 are no more", camp.about(8), 11);
        Camps.go(camp, "p011");
        due("11 are no more", camp.about(8), 11);
        Camps.go(camp, "p011");
        due("12 are", camp.about(8), 12);
        Camps.go(camp, "f0050 e l j0 l");
        due("it stays", camp.about(8), 12);
        due("256 at most", Camps.of("e 6*p401 p161 l").about(8), 256);
        // Trials on copies count for nothing.
        Camps.go(camp, "e");
        camp.runScript(3, 104011040110401L);
        camp.simulate(7, 99);
        camp.more(40, 1);
        camp.bestSize();
        camp.givenUp(0);
        due("it stays", camp.about(8), 12);
    }

    private static void mostFieldPlaces() {
        sentence("9: of places of all fields, spare ones too");
        TentCamp camp = Camps.of("K20 e p201 p011");
        due("36 at one time", camp.about(9), 36);
        Camps.go(camp, "j0");
        due("16 are spare", camp.about(6), 16);
        due("it stays", camp.about(9), 36);
        Camps.go(camp, "p191");
        due("35 with the spare ones are no more", camp.about(9), 36);
        Camps.go(camp, "j0 p201");
        due("36 are no more", camp.about(9), 36);
        Camps.go(camp, "j0 p211");
        due("37 are", camp.about(9), 37);
        Camps.go(camp, "p011");
        due("a spare one that comes into use is not new", camp.about(9), 37);
        due("256 at most", Camps.of("K0 e 16*p091 7*p161 l p011").about(9), 256);
        camp.runScript(3, 104011040110401L);
        camp.simulate(7, 99);
        camp.more(40, 1);
        camp.bestSize();
        due("trials count for nothing", camp.about(9), 37);
    }

    private static void struckSoFar() {
        sentence("10: the tents that were struck so far");
        TentCamp camp = Camps.of("p011 e");
        due("none", camp.about(10), 0);
        for (int n = 1; n <= 23; n++) {
            Camps.go(camp, n % 2 == 0 ? "p011 j0" : "p011 l e");
            due("struck", camp.about(10), n);
        }
        Camps.go(camp, "j0 e l");
        due("nothing was struck", camp.about(10), 23);
        Camps.go(camp, "23*p011 l");
        due("23 at once", camp.about(10), 46);
    }

    private static void set() {
        sentence("Throws IllegalArgumentException if what or v is out of range");
        TentCamp camp = new TentCamp();
        range("usual size", 8, 64, ARGUMENT, v -> camp.set(0, v));
        range("keeps", 0, 128, ARGUMENT, v -> camp.set(1, v));
        range("poisoned", 0, 1, ARGUMENT, v -> camp.set(2, v));
        TentCamp other = new TentCamp();
        range("what, 8", 0, 1, ARGUMENT, what -> other.set(what, 8));
        range("what, 1", 1, 2, ARGUMENT, what -> other.set(what, 1));
        fails("what 3, 16", ARGUMENT, () -> other.set(3, 16));
        fails("what 3, 0", ARGUMENT, () -> other.set(3, 0));
        fails("what -1, 0", ARGUMENT, () -> other.set(-1, 0));
        fails("both wrong", ARGUMENT, () -> other.set(3, 129));
        due("no wrong one is an action", other.undo(), 3);
    }

    private static void setKeeps() {
        sentence("1: what the camp keeps (it is looked at with the next striking)");
        TentCamp camp = Camps.of("K128 e e p401 p401 p401 j1");
        due("120 are spare", camp.about(6), 120);
        due("set", camp.set(1, 79), 128);
        due("nothing is given up", camp.about(6), 120);
        due("a spare one is still taken", camp.where(40, 1), 1);
        Camps.go(camp, "p011 f0050 u u");
        due("no striking so far", camp.about(6), 120);
        due("set", camp.set(1, 128), 79);
        Camps.go(camp, "K40 K128 j1");
        due("it is what it is then", camp.about(6), 120);
        Camps.go(camp, "K79 l");
        due("two go with the next one", camp.about(6), 40);
    }

    private static void setUsualAndPoison() {
        sentence("2: whether it is poisoned (0 or 1)");
        sentence("0: the usual size (fields that there are stay as they are)");
        sentence("Returns the previous one.");
        TentCamp camp = Camps.of("K128 e p081 p081 e p081 l");
        due("set", camp.set(0, 64), 16);
        due("a field in use", camp.field(0, 0), 16);
        due("a spare one", camp.spare(0), 16);
        Camps.go(camp, "p321");
        due("a new one", camp.field(1, 0), 64);
        due("set", camp.set(0, 8), 64);
        due("it stays", camp.field(1, 0), 64);
        due("it stays usual", camp.field(1, 1), 0);
        due("set poison", camp.set(2, 0), 1);
        due("set poison", camp.set(2, 0), 0);
        due("set poison", camp.set(2, 1), 0);
        due("set poison", camp.set(2, 1), 1);
        due("values stay", camp.field(0, 4) + camp.field(1, 4), 0);
    }

    private static void undoNone() {
        sentence("Throws IllegalStateException if none is remembered");
        TentCamp camp = new TentCamp();
        fails("nothing", STATE, () -> camp.undo());
        Camps.go(camp, "e");
        due("one", camp.undo(), 0);
        fails("nothing again", STATE, () -> camp.undo());
        fails("and again", STATE, () -> camp.undo());
        Camps.go(camp, "e l");
        due("two", camp.undo(), 1);
        due("one", camp.undo(), 0);
        fails("nothing", STATE, () -> camp.undo());
        due("no frame", camp.about(3), 0);
    }

    private static void undoReturns() {
        sentence("Returns how many states are still remembered.");
        for (int n = 0; n <= 45; n++) {
            TentCamp camp = new TentCamp();
            for (int v = 1; v <= n; v++) {
                camp.set(1, v + 50);
            }
            int left = Math.min(n, 14);
            for (int i = 1; i <= left; i++) {
                due("undo " + i + " behind " + n, camp.undo(), left - i);
                due("state then", camp.about(12), n - i == 0 ? 32 : n - i + 50);
            }
            fails("undo once more behind " + n, STATE, () -> camp.undo());
            due("state then", camp.about(12), n <= 14 ? 32 : n - 14 + 50);
        }
    }

    private static void states14() {
        sentence("At most 14 states are remembered; when one more is remembered, the oldest one is forgotten.");
        TentCamp fourteen = Camps.of("8*e 6*p011");
        for (int left = 13; left >= 0; left--) {
            due("undo", fourteen.undo(), left);
        }
        due("all is taken back", fourteen.about(3), 0);
        TentCamp fifteen = Camps.of("8*e 7*p011");
        for (int left = 13; left >= 0; left--) {
            due("undo", fifteen.undo(), left);
        }
        due("the first enter is not", fifteen.about(3), 1);
        fails("it is forgotten", STATE, () -> fifteen.undo());
        // A refused action forgets nothing.
        TentCamp refused = Camps.of("8*e 6*p011");
        fails("a ninth frame", STATE, () -> refused.enter());
        fails("no such tent", INDEX, () -> refused.fill(6, 0));
        for (int left = 13; left >= 0; left--) {
            due("undo", refused.undo(), left);
        }
        due("all is taken back", refused.about(3), 0);
    }

    /** Actions, undos and actions again, in all sorts of numbers: the places of the states come round again. */
    private static void statesInTheRound() {
        sentence("when one more is remembered, the oldest one is forgotten.");
        int[] firsts = {0, 1, 13, 14, 15, 27, 28, 29, 43};
        int[] thens = {0, 1, 2, 7, 13, 14, 15, 16, 28, 29};
        for (int first : firsts) {
            for (int backs = 0; backs <= 14; backs++) {
                for (int then : thens) {
                    round(first, backs, then);
                }
            }
        }
    }

    private static void round(int first, int backs, int then) {
        TentCamp camp = new TentCamp();
        ArrayDeque<Integer> states = new ArrayDeque<>();
        int now = 32;
        String what = first + " actions, " + backs + " undos, " + then + " actions";
        for (int i = 0; i < first + then; i++) {
            for (int b = 0; i == first && b < backs && !states.isEmpty(); b++) {
                now = states.pop();
                due(what + ": undo", camp.undo(), states.size());
                due(what + ": state", camp.about(12), now);
            }
            states.push(now);
            if (states.size() > 14) {
                states.removeLast();
            }
            now = 40 + i;
            camp.set(1, now);
        }
        while (!states.isEmpty()) {
            now = states.pop();
            due(what + ": undo at the end", camp.undo(), states.size());
            due(what + ": state", camp.about(12), now);
        }
        fails(what + ": none is left", STATE, () -> camp.undo());
    }

    private static void remembered() {
        sentence("Before each action, the state is remembered.");
        sentence("Takes back the last action that is remembered.");
        String[] actions = {"p011", "p161", "p401", "p098", "f0000", "f0399", "e", "l", "j0", "j1", "U8", "U64", "K0", "K128", "P0", "P1",
            "U8 p051", "K0 j0", "P0 j0", "K0 l", "j0 p012 p014 p204", "K0 j0 e p158 p301", "l l e p018 e", "l P0 U33 p112 f0012 e p304"};
        // Restoring forgets the states ahead of it, so that none of the others is forgotten here.
        for (String state : new String[] {RICH + " s0 r0", RICH + " s1 r1 p071 f0033", "K128 e e 3*p401 j1 3*p018 p011 s0 r0"}) {
            for (String action : actions) {
                String back = " u".repeat(action.split(" ").length);
                Look.alike(check, action + " and undo", () -> Camps.of(state), () -> Camps.of(state + " " + action + back));
            }
        }
    }

    private static void alsoIfNothingBecomesDifferent() {
        sentence("Each call of one of them that does not throw an exception is an action, also if nothing becomes different (undo is none).");
        String[] actions = {"U16", "K32", "P1", "f0000", "j0"};
        for (String action : actions) {
            TentCamp camp = Camps.of("p031 e " + action);
            due(action + " and undo", camp.undo(), 2);
            due("the frame is there", camp.about(3), 1);
            due("undo", camp.undo(), 1);
            due("the frame is not", camp.about(3), 0);
        }
        TentCamp many = Camps.of("p031 14*f0000");
        for (int left = 13; left >= 0; left--) {
            due("undo", many.undo(), left);
        }
        due("the tent was pitched ahead of the 14", many.about(0), 1);
        fails("that is forgotten", STATE, () -> many.undo());
    }

    private static void undoIsNone() {
        sentence("(undo is none)");
        TentCamp camp = Camps.of("K1 K2 K3");
        due("undo", camp.undo(), 2);
        due("undo", camp.undo(), 1);
        due("no undo is taken back", camp.about(12), 1);
        camp.set(1, 9);
        due("undo takes back the last", camp.undo(), 1);
        due("keeps", camp.about(12), 1);
        due("undo", camp.undo(), 0);
        due("keeps", camp.about(12), 32);
    }

    private static void noActions() {
        sentence("load and restore are not actions.");
        TentCamp loaded = Camps.of("e tT16032e");
        loaded.load();
        fails("undo behind load", STATE, () -> loaded.undo());
        loaded.enter();
        due("one action behind it", loaded.undo(), 0);
        due("the frame of the text", loaded.about(3), 1);
        TentCamp restored = Camps.of("e s0 e r0");
        fails("undo behind restore", STATE, () -> restored.undo());
        restored.enter();
        due("one action behind it", restored.undo(), 0);
        due("the frame of the slot", restored.about(3), 1);
        TentCamp others = Camps.of("p031 e");
        Camps.go(others, "s0 s1 tT16032");
        others.errorPosition();
        others.clearText();
        others.where(3, 1);
        others.givenUp(0);
        others.bestSize();
        others.more(3, 1);
        others.runScript(1, 10011);
        others.simulate(1, 9);
        others.about(0);
        others.spare(0);
        due("two actions in all", others.undo(), 1);
    }

    private static void notTheText() {
        sentence("the state, which consists of everything but the text and the save slots");
        TentCamp camp = Camps.of("p031 tT16 e s1 t032 p021");
        due("undo", camp.undo(), 2);
        due("the text stays", camp.errorPosition(), NONE);
        due("the slot stays", camp.restore(1), 1);
        due("the text stays", camp.append('x'), 7);
        Camps.go(camp, "s0 p011");
        camp.clearText();
        due("undo", camp.undo(), 0);
        due("no text comes back", camp.clearText(), 0);
        due("both slots are there", camp.restore(0) + camp.restore(1), 2);
        Camps.go(camp, "s0 tTT r0");
        due("restore leaves the text", camp.clearText(), 2);
        // Everything else goes back.
        TentCamp all = Camps.of("p031 e U33 K7 P0 p161 j0 u u u u u");
        int[] wants = {1, 1, 0, 1, 3, 16, 0, 0, 3, 16, 0, 16, 32, 1};
        for (int what = 0; what <= 13; what++) {
            due("about " + what, all.about(what), wants[what]);
        }
    }

    private static void save() {
        sentence("Throws IndexOutOfBoundsException if there is no such save slot");
        TentCamp camp = Camps.of("p031 p031");
        range("save", 0, 1, INDEX, slot -> camp.save(slot));
        range("restore", 0, 1, INDEX, slot -> camp.restore(slot));
        TentCamp empty = new TentCamp();
        fails("restore 2: the index counts first", INDEX, () -> empty.restore(2));
        fails("restore -1: the index counts first", INDEX, () -> empty.restore(-1));
        sentence("Returns the number of tents.");
        for (int n = 0; n <= 24; n++) {
            TentCamp tents = Camps.of(n + "*p011");
            due("save", tents.save(n % 2), n);
            Camps.go(tents, "e");
            due("restore", tents.restore(n % 2), n);
            due("tents", tents.about(0), n);
            due("frames", tents.about(3), 0);
        }
    }

    private static void saveCopies() {
        sentence("Stores the present state in a save slot.");
        String changes = " f0077 l l p401 U40 K3 P0 p014 p118 e e p012 j0";
        Look.alike(check, "save, changes, restore", () -> Camps.of(RICH + " s0 r0"), () -> Camps.of(RICH + " s0" + changes + " r0"));
        Look.alike(check, "the other slot", () -> Camps.of(RICH + " s1 r1"), () -> Camps.of(RICH + " s1" + changes + " r1"));
        Look.alike(check, "over an older one", () -> Camps.of(RICH + " s0 r0"), () -> Camps.of("p401 s0 u " + RICH + " s0" + changes + " r0"));
        Look.alike(check, "nothing but the slot changes", () -> Camps.of("s0 " + RICH + " s0"), () -> Camps.of(RICH + " s0"));
        TentCamp camp = Camps.of("p031 f0005 s0 f0006");
        due("the present is no part of the slot", camp.restore(0), 1);
        due("value", camp.place(0, 0), 5);
        due("saved once more", camp.save(0), 1);
        camp.fill(0, 7);
        due("restore", camp.restore(0), 1);
        due("value", camp.place(0, 0), 5);
    }

    private static void restore() {
        sentence("Returns the number of tents then.");
        sentence("The save slot keeps it.");
        String changes = " f0077 l l p012 p401 e p018 j0 p204";
        Look.alike(check, "restored twice", () -> Camps.of(RICH + " s0 r0"), () -> Camps.of(RICH + " s0 l r0" + changes + " r0"));
        Look.alike(check, "both slots", () -> Camps.of(RICH + " s1 l s0 r1"), () -> Camps.of(RICH + " s1 l s0 r1" + changes + " r0 r1"));
        TentCamp camp = Camps.of("p031 s1");
        for (int i = 0; i < 40; i++) {
            Camps.go(camp, "f0050 e p401");
            due("restore", camp.restore(1), 1);
            due("value", camp.place(0, 0), 0);
            due("frames", camp.about(3), 0);
        }
    }

    private static void restoreForgets() {
        sentence("Replaces the state by the one in a save slot, and forgets all remembered states.");
        for (int n = 0; n <= 16; n++) {
            TentCamp camp = Camps.of("s0 " + n + "*K40 r0");
            fails("undo behind restore, " + n, STATE, () -> camp.undo());
            due("keeps", camp.about(12), 32);
            Camps.go(camp, "K50 K60");
            due("undo", camp.undo(), 1);
            due("undo", camp.undo(), 0);
            due("keeps", camp.about(12), 32);
            fails("none is left", STATE, () -> camp.undo());
        }
    }

    private static void restoreSinceLoad() {
        sentence("Throws IllegalStateException if nothing has been saved in it since the last load");
        TentCamp camp = Camps.of("tT16032");
        fails("slot 0 at first", STATE, () -> camp.restore(0));
        fails("slot 1 at first", STATE, () -> camp.restore(1));
        Camps.go(camp, "s0");
        due("an empty camp was saved", camp.restore(0), 0);
        fails("slot 1", STATE, () -> camp.restore(1));
        camp.load();
        fails("slot 0 behind load", STATE, () -> camp.restore(0));
        Camps.go(camp, "p011 s1");
        fails("slot 0", STATE, () -> camp.restore(0));
        due("slot 1", camp.restore(1), 1);
        camp.append('?');
        fails("a load that is refused", STATE, () -> camp.load());
        due("slot 1 is there still", camp.restore(1), 1);
        fails("slot 0", STATE, () -> camp.restore(0));
    }

    private static void slotsApart() {
        sentence("slot: 0 or 1");
        TentCamp camp = Camps.of("s0 p011 s1 p011");
        due("slot 0", camp.restore(0), 0);
        due("slot 1", camp.restore(1), 1);
        due("slot 0 again", camp.restore(0), 0);
        Camps.go(camp, "3*p011 s0");
        due("slot 1 stays", camp.restore(1), 1);
        due("slot 0", camp.restore(0), 3);
    }
}
