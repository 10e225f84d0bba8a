import java.util.ArrayList;
import java.util.LinkedHashMap;
import java.util.List;
import java.util.Map;
import java.util.regex.Matcher;
import java.util.regex.Pattern;

/** The sentences that say what the whole is, what each call is for, and what its arguments are. */
public final class CallsTest extends Due {
    private interface On {
        long answer(TentCamp camp);
    }

    private CallsTest() { }

    public static void main(String[] args) {
        check = new Check("CallsTest");
        whatItIs();
        whatItTells();
        pitchedInThisWay();
        strikingMeans();
        constants();
        sections();
        append();
        about();
        tent();
        field();
        place();
        spare();
        frame();
        pitch();
        fill();
        leave();
        jump();
        givenUp();
        set();
        check.end();
    }

    private static void whatItIs() {
        sentence("A camp of tents that are pitched side by side in fields and struck by jumping back: frames that know where they began, "
            + "tents with places that begin at even distances, big tents with fields of their own, spare fields that are kept for later, "
            + "poison that is strewn where a tent stood, the high water of it all.");
        TentCamp camp = Camps.of("K128 p031 e p058 p401 e p021");
        due("where frame 0 began, in tents", camp.frame(0, 0), 1);
        due("where frame 0 began, in fields", camp.frame(0, 1), 1);
        due("where frame 1 began, in tents", camp.frame(1, 0), 3);
        due("where frame 1 began, in fields", camp.frame(1, 1), 2);
        due("a place that 8 divides", camp.tent(1, 1), 8);
        due("side by side with the one ahead", camp.tent(3, 1), 13);
        due("a field of its own", camp.tent(2, 0), 1);
        due("it has as many places as the tent", camp.field(1, 0), 40);
        due("struck by jumping back", camp.jump(0), 3);
        due("kept for later", camp.spare(0), 40);
        due("poison where a tent stood", camp.place(0, 14), 100);
        due("none where none stood", camp.place(0, 7) + camp.place(0, 15), 0);
        due("the high water of tents", camp.about(8), 50);
        due("the high water of fields", camp.about(9), 56);
    }

    private static void whatItTells() {
        sentence("It tells where a tent would be pitched, what a jump would strike, how much is lost in gaps, which size of fields would "
            + "do best. Changes can be undone.");
        TentCamp camp = Camps.of("p031 e p058 e p201 p041");
        due("where 1 would be", camp.where(1, 1), 0);
        due("where 13 would be", camp.where(13, 1), 2);
        for (int i = 0; i <= 1; i++) {
            int would = camp.about(0) - camp.frame(i, 0);
            int places = camp.frame(i, 2);
            int before = camp.about(4);
            due("struck by jump(" + i + ")", camp.jump(i), would);
            due("places of the struck ones", before - camp.about(4), places);
            due("undone", camp.undo(), 6);
            Camps.go(camp, "K31 K32");
            due("undone", camp.undo(), 7);
            due("undone", camp.undo(), 6);
        }
        // 5 ahead of the second tent, 3 behind it: the 4 has no room there and lies on a later usual field.
        due("lost in gaps", camp.about(7), 8);
        due("behind that one nothing is lost", Camps.of("p011 p018").about(7), 7);
        // With 8 the 5 is big and the 4 lies beside the 3: 8, 5 and 20 places. With 17 it would be 17 and 20.
        due("the best size", camp.bestSize(), 8);
        // With 8 the 5 is big: 5 and 8 places. With 11 both lie on one field.
        due("the best size of two", Camps.of("p051 p038").bestSize(), 11);
    }

    private static void pitchedInThisWay() {
        sentence("A tent of the size n and the step s is pitched in this way:");
        TentCamp camp = Camps.of("K128 U20 p091 e p301 p251 l");
        // 1: on the last usual field, though there are spare ones and 11 is more than half.
        due("where 8, 4", camp.where(8, 4), 0);
        due("its number", camp.pitch(8, 4), 1);
        due("its field", camp.tent(1, 0), 0);
        due("its first place", camp.tent(1, 1), 12);
        // 2: on the smallest spare one with so many places, though a new one would be less.
        due("where 11, 1", camp.where(11, 1), 1);
        due("its number", camp.pitch(11, 1), 2);
        due("places of its field", camp.field(1, 0), 25);
        due("its field is big", camp.field(1, 1), 1);
        due("its first place", camp.tent(2, 1), 0);
        due("a usual one on the other", camp.pitch(10, 8), 3);
        due("places of its field", camp.field(2, 0), 30);
        due("its field is usual", camp.field(2, 1), 0);
        due("no spare one is left", camp.about(2), 0);
        // 3: new ones, a big one with its own size, a usual one with the usual size.
        due("big", camp.field(camp.tent(camp.pitch(21, 1), 0), 0), 21);
        due("behind it on the last usual one", camp.tent(camp.pitch(20, 2), 1), 10);
        due("usual", camp.field(camp.tent(camp.pitch(1, 8), 0), 0), 20);
        Camps.go(camp, "3*p401");
        due("236 places", camp.about(5), 236);
        due("21 are too much", camp.where(21, 1), 3);
        due("20 are not", camp.where(20, 1), 2);
    }

    private static void strikingMeans() {
        sentence("Striking what lies behind a frame means: all tents behind those that stood then are struck; if the camp is poisoned (at "
            + "first it is), each place of a struck tent gets the value 100, otherwise values stay; all fields behind those that were in "
            + "use then become spare, the last one first. Then, as long as the spare fields together have more places than the camp keeps "
            + "(0 to 128, at first 32), the greatest of them, of several the one that became spare last, is given up.");
        // Left, jumped to, jumped to with a frame within, done by a text, a script or a simulation: it is the same.
        String state = "K50 p031 f0009 e p058 p201 p401 p201";
        String[] strikes = {"l", "j0", "e p021 j0", "e p021 l l"};
        for (String strike : strikes) {
            TentCamp camp = Camps.of(state + " " + strike);
            due(strike + ": tents", camp.about(0), 1);
            due(strike + ": fields in use", camp.about(1), 1);
            due(strike + ": the 40 is given up, the two of 20 stay", camp.about(2), 2);
            due(strike + ": their places", camp.about(6), 40);
            due(strike + ": value of the tent that stands", camp.place(0, 2), 9);
            due(strike + ": poison on its field", camp.field(0, 4), strike.contains("p021") ? 7 : 5);
        }
        String text = "T16050p031f0009ep058p201p401p201";
        TentCamp loaded = Camps.loaded(text + "l");
        due("text: spare places", loaded.about(6), 40);
        due("text: poison", loaded.field(0, 4), 5);
        TentCamp tried = Camps.loaded(text);
        due("script: two are spare", tried.runScript(3, 200018000290001L), NONE);
        due("script: not one", tried.runScript(2, 2000180001L), 1);
        due("simulate: 16 and 40 are left", tried.simulate(Seeds.doing("l"), 1), 4056);
        due("givenUp: the 40", tried.givenUp(0), 40);
    }

    private static void constants() {
        sentence("The constants: NONE = -1: There is no such result.");
        due("NONE", TentCamp.NONE, -1);
        TentCamp camp = Camps.withText("T16032");
        due("errorPosition", camp.errorPosition(), TentCamp.NONE);
        due("spare", camp.spare(0), TentCamp.NONE);
        due("tent without a frame", Camps.of("p011").tent(0, 4), TentCamp.NONE);
        due("runScript", camp.runScript(1, 10011), TentCamp.NONE);
        due("bestSize", Camps.of("5*p401 U30 p161 p014 p261 U11 p098").bestSize(), TentCamp.NONE);
    }

    private static Map<String, On> calls() {
        Map<String, On> calls = new LinkedHashMap<>();
        calls.put("append", c -> c.append('e'));
        calls.put("clearText", TentCamp::clearText);
        calls.put("errorPosition", TentCamp::errorPosition);
        calls.put("load", TentCamp::load);
        calls.put("about", c -> c.about(0));
        calls.put("tent", c -> c.tent(0, 0));
        calls.put("field", c -> c.field(0, 0));
        calls.put("place", c -> c.place(0, 0));
        calls.put("spare", c -> c.spare(0));
        calls.put("frame", c -> c.frame(0, 0));
        calls.put("pitch", c -> c.pitch(1, 1));
        calls.put("fill", c -> c.fill(0, 5));
        calls.put("enter", TentCamp::enter);
        calls.put("leave", TentCamp::leave);
        calls.put("jump", c -> c.jump(0));
        calls.put("set", c -> c.set(1, 9));
        calls.put("undo", TentCamp::undo);
        calls.put("where", c -> c.where(1, 1));
        calls.put("givenUp", c -> c.givenUp(0));
        calls.put("bestSize", TentCamp::bestSize);
        calls.put("more", c -> c.more(1, 1));
        calls.put("runScript", c -> c.runScript(1, 10011));
        calls.put("simulate", c -> c.simulate(1, 99));
        calls.put("save", c -> c.save(1));
        calls.put("restore", c -> c.restore(0));
        return calls;
    }

    /** Which calls are actions stands in the document's list of sections. */
    private static void sections() {
        sentence("The methods in the section \"actions\" change the state");
        sentence("Ahead of the calls append, clearText, errorPosition, load the interface says: ---- text.");
        sentence("Ahead of the calls about, tent, field, place, spare, frame the interface says: ---- what there is.");
        sentence("Ahead of the calls pitch, fill, enter, leave, jump, set, undo the interface says: ---- actions.");
        sentence("Ahead of the calls where, givenUp, bestSize, more the interface says: ---- what would be");
        sentence("Ahead of the calls runScript, simulate the interface says: ---- scripts, simulations.");
        sentence("Ahead of the calls save, restore the interface says: ---- save slots.");
        Map<String, On> calls = calls();
        List<String> named = new ArrayList<>();
        Matcher m = Pattern.compile("Ahead of the calls ([\\w, ]+) the interface says: ---- ([^.;]+)").matcher(check.document());
        while (m.find()) {
            for (String name : m.group(1).split(", ")) {
                named.add(name);
                if (calls.containsKey(name)) {
                    remembered(name, m.group(2), calls.get(name));
                }
            }
        }
        check.same("the calls of all sections", String.join(" ", named), String.join(" ", calls.keySet()));
    }

    private static void remembered(String name, String section, On call) {
        // Three actions; saving is none, nor is appending.
        TentCamp camp = Camps.of("tT16032 p031 e K40 s0");
        call.answer(camp);
        if (name.equals("load") || name.equals("restore")) {
            fails(name + " forgets all", STATE, () -> camp.undo());
            return;
        }
        int more = name.equals("undo") ? -1 : section.equals("actions") ? 1 : 0;
        due("undo behind " + name + " of " + section, camp.undo(), 2 + more);
    }

    private static void append() {
        sentence("Appends a character to the text buffer.");
        String text = "T16032p051ex";
        TentCamp camp = new TentCamp();
        for (int i = 0; i < text.length(); i++) {
            due("append", camp.append(text.charAt(i)), i + 1);
        }
        due("they stand in their order", camp.load(), 0);
        due("the tent", camp.tent(0, 2), 5);
        due("the frame", camp.about(3), 1);
        due("the x", camp.about(13), 0);
        TentCamp other = new TentCamp();
        for (int i = text.length() - 1; i >= 0; i--) {
            other.append(text.charAt(i));
        }
        due("another order", other.errorPosition(), 0);
        due("a wrong one is appended too", camp.append(' '), 13);
        due("it is the first wrong one", camp.errorPosition(), 12);
    }

    private static void about() {
        sentence("Returns a number. - what: 0: the number of tents; 1: of fields in use; 2: of spare ones; 3: of frames;");
        sentence("Returns that number.");
        // Each number is another one than all the others.
        TentCamp camp = Camps.of("K90 U20 6*e 4*p011 p018 e 5*p201 j6 p191 U25 P0");
        int[] wants = {6, 2, 3, 7, 24, 40, 60, 4, 105, 120, 5, 25, 90, 0};
        for (int what = 0; what < wants.length; what++) {
            due("about(" + what + ")", camp.about(what), wants[what]);
        }
        range("about", 0, 13, ARGUMENT, what -> camp.about(what));
    }

    private static void tent() {
        sentence("Returns a number of a tent. - t: tent - what: 0: its field;");
        TentCamp camp = Camps.of("p151 e p161 e e p021 p074");
        int[][] wants = {{0, 0, 15, 1, NONE}, {1, 0, 16, 1, 0}, {2, 0, 2, 1, 2}, {2, 4, 7, 4, 2}};
        for (int t = 0; t < wants.length; t++) {
            for (int what = 0; what <= 4; what++) {
                due("tent(" + t + ", " + what + ")", camp.tent(t, what), wants[t][what]);
            }
        }
    }

    private static void field() {
        sentence("Returns a number of a field in use. - f: field - what: 0: the number of its places;");
        TentCamp camp = Camps.of("K64 e p301 l p041 p058 p281 p181 p031");
        int[][] wants = {{30, 0, 3, 14, 30 - 12}, {28, 1, 1, 0, 0}, {18, 1, 1, 0, 0}};
        // Nobody lives on poison: the 3 tents of field 0 drive it out.
        Camps.go(camp, "f0000 f0100 f0400");
        for (int f = 0; f < wants.length; f++) {
            for (int what = 0; what <= 4; what++) {
                due("field(" + f + ", " + what + ")", camp.field(f, what), wants[f][what]);
            }
        }
        fails("a spare one is none", INDEX, () -> Camps.of("e p161 l").field(0, 0));
    }

    private static void place() {
        sentence("Returns the value of a place. - f: field in use - k: place");
        TentCamp camp = Camps.of("p011 p021 p131 p151");
        for (int t = 0; t < 4; t++) {
            camp.fill(t, 10 + t);
        }
        for (int k = 0; k < 16; k++) {
            due("place(0, " + k + ")", camp.place(0, k), k < 1 ? 10 : k < 3 ? 11 : 12);
        }
        for (int k = 0; k < 15; k++) {
            due("place(1, " + k + ")", camp.place(1, k), 13);
        }
        fails("place(1, 15)", INDEX, () -> camp.place(1, 15));
        fails("place(0, 16)", INDEX, () -> camp.place(0, 16));
        fails("place(2, 0)", INDEX, () -> camp.place(2, 0));
    }

    private static void spare() {
        sentence("Returns a spare field. - i: which one, from 0,");
        TentCamp camp = Camps.of("K128 e p251 p091 p331 l");
        due("spare(0)", camp.spare(0), 9);
        due("spare(1)", camp.spare(1), 25);
        due("spare(2)", camp.spare(2), 33);
        due("spare(3)", camp.spare(3), NONE);
        fails("spare(-1)", ARGUMENT, () -> camp.spare(-1));
    }

    private static void frame() {
        sentence("Returns a number of a frame. - i: frame - what: 0: how many tents stood when it was entered;");
        TentCamp camp = Camps.of("p031 p161 p401 e p021 e e p201");
        int[][] wants = {{3, 3, 22}, {4, 3, 20}, {4, 3, 20}};
        for (int i = 0; i < wants.length; i++) {
            for (int what = 0; what <= 2; what++) {
                due("frame(" + i + ", " + what + ")", camp.frame(i, what), wants[i][what]);
            }
        }
    }

    private static void pitch() {
        sentence("Pitches a tent. - size: 1 to 40 - step: 1, 2, 4 or 8 Returns its number.");
        for (int s : STEPS) {
            range("size with the step " + s, 1, 40, ARGUMENT, n -> new TentCamp().pitch(n, s));
            TentCamp other = Camps.of("5*p031");
            due("its number", other.pitch(40, s), 5);
            due("its size", other.tent(5, 2), 40);
            due("its step", other.tent(5, 3), s);
            due("one tent more", other.about(0), 6);
        }
    }

    private static void fill() {
        sentence("- t: tent - v: 0 to 99");
        TentCamp camp = Camps.of("p031 p041 p151");
        for (int v = 0; v <= 99; v++) {
            due("fill(1, " + v + ")", camp.fill(1, v), 0);
            due("its first place", camp.place(0, 3), v);
            due("its last place", camp.place(0, 6), v);
            due("its neighbours", camp.place(0, 2) + camp.place(0, 7) + camp.place(1, 3), 0);
        }
        fails("100", ARGUMENT, () -> camp.fill(1, 100));
        fails("-1", ARGUMENT, () -> camp.fill(1, -1));
        due("nothing has changed", camp.place(0, 3), 99);
    }

    private static void leave() {
        sentence("Leaves the last frame.");
        TentCamp camp = Camps.of("e p011 e p012 p014 e p018 p018 p018");
        due("frames", camp.about(3), 3);
        for (int struck = 3; struck >= 1; struck--) {
            due("leave", camp.leave(), struck);
            due("frames", camp.about(3), struck - 1);
            int gone = struck - 1;
            fails("frame " + gone, INDEX, () -> camp.frame(gone, 0));
        }
        fails("none is left", STATE, () -> camp.leave());
    }

    private static void jump() {
        sentence("Jumps to a frame. - i: frame");
        for (int i = 0; i < 3; i++) {
            TentCamp camp = Camps.of("e p011 e p012 p014 e p018 p018 p018");
            due("jump(" + i + ")", camp.jump(i), i == 0 ? 6 : i == 1 ? 5 : 3);
            due("frames", camp.about(3), i + 1);
            due("tents", camp.about(0), i == 0 ? 0 : i == 1 ? 1 : 3);
            due("and again", camp.jump(i), 0);
            int gone = i + 1;
            fails("jump(" + gone + ")", INDEX, () -> camp.jump(gone));
        }
    }

    private static void givenUp() {
        sentence("Tells what a jump would give up. - i: frame");
        TentCamp camp = Camps.of("K0 e p201 e p301 e");
        int[] wants = {50, 30, 0};
        for (int i = 0; i < 3; i++) {
            due("givenUp(" + i + ")", camp.givenUp(i), wants[i]);
        }
        fails("givenUp(3)", INDEX, () -> camp.givenUp(3));
        due("nothing is given up", camp.about(5), 50);
    }

    private static void set() {
        sentence("Changes a setting. - what: 0: the usual size");
        sentence("- v: the new value, in its range");
        int[][] ranges = {{8, 64}, {0, 128}, {0, 1}};
        for (int what = 0; what <= 2; what++) {
            int setting = what;
            int[] among = ranges[what];
            TentCamp camp = new TentCamp();
            range("set(" + what + ", ..)", among[0], among[1], ARGUMENT, v -> camp.set(setting, v));
            TentCamp other = new TentCamp();
            for (int v = among[0]; v <= among[1]; v++) {
                other.set(what, v);
                for (int w = 0; w <= 2; w++) {
                    int first = w == 0 ? 16 : w == 1 ? 32 : 1;
                    due("setting " + w + " behind set(" + what + ", " + v + ")", other.about(11 + w), w == what ? v : first);
                }
            }
        }
    }
}
