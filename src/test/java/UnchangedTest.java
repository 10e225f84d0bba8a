/** Each call that is refused: what it throws, and that later answers are those without it. And calls that only tell. */
public final class UnchangedTest extends Due {
    private static final String RICH = "s1 K90 p031 f0009 p018 e e p201 p401 p171 j1 p161 tT16032p";
    private static final String FULL = "K50 22*p011 e p011 7*e p024 s0 tT" + "e".repeat(99);
    private static final String BRIM = "e 6*p401 p161 e s0 s1 tT08128e";

    private interface On {
        long answer(TentCamp camp);
    }

    private UnchangedTest() { }

    public static void main(String[] args) {
        check = new Check("UnchangedTest");
        sentence("IndexOutOfBoundsException means that a tent, a field, a place or a frame does not exist, or that a save slot is not 0 or 1. "
            + "IllegalArgumentException means that another argument is out of its range. IllegalStateException means what the method says.");
        sentence("A call that throws an exception changes nothing.");
        ofNew();
        ofRich();
        ofFull();
        ofBrim();
        ofMany();
        everywhere("");
        everywhere(RICH);
        everywhere(FULL);
        everywhere(BRIM);
        severalRefused();
        firstNamed();
        onlyTell();
        check.end();
    }

    /** The call throws this, and then the camp is as it was. */
    private static void refused(String what, String state, Class<? extends RuntimeException> want, On call) {
        String name = what + " behind \"" + state + "\"";
        fails(name, want, () -> call.answer(Camps.of(state)));
        Look.alike(check, name, () -> Camps.of(state), () -> afterRefusal(state, call));
    }

    private static TentCamp afterRefusal(String state, On call) {
        TentCamp camp = Camps.of(state);
        for (int i = 0; i < 2; i++) {
            try {
                call.answer(camp);
            } catch (RuntimeException e) {
                continue;
            }
        }
        return camp;
    }

    private static void ofNew() {
        refused("load", "", STATE, TentCamp::load);
        refused("tent(0, 0)", "", INDEX, c -> c.tent(0, 0));
        refused("field(0, 0)", "", INDEX, c -> c.field(0, 0));
        refused("place(0, 0)", "", INDEX, c -> c.place(0, 0));
        refused("frame(0, 0)", "", INDEX, c -> c.frame(0, 0));
        refused("fill(0, 0)", "", INDEX, c -> c.fill(0, 0));
        refused("leave()", "", STATE, TentCamp::leave);
        refused("jump(0)", "", INDEX, c -> c.jump(0));
        refused("undo()", "", STATE, TentCamp::undo);
        refused("givenUp(0)", "", INDEX, c -> c.givenUp(0));
        refused("restore(0)", "", STATE, c -> c.restore(0));
        refused("restore(1)", "", STATE, c -> c.restore(1));
    }

    private static void ofRich() {
        refused("load", RICH, STATE, TentCamp::load);
        refused("tent(3, 0)", RICH, INDEX, c -> c.tent(3, 0));
        refused("tent(2, 5)", RICH, ARGUMENT, c -> c.tent(2, 5));
        refused("tent(2, -1)", RICH, ARGUMENT, c -> c.tent(2, -1));
        refused("field(2, 0)", RICH, INDEX, c -> c.field(2, 0));
        refused("field(1, 5)", RICH, ARGUMENT, c -> c.field(1, 5));
        refused("field(1, -1)", RICH, ARGUMENT, c -> c.field(1, -1));
        refused("place(2, 0)", RICH, INDEX, c -> c.place(2, 0));
        refused("place(1, 17)", RICH, INDEX, c -> c.place(1, 17));
        refused("place(1, -1)", RICH, INDEX, c -> c.place(1, -1));
        refused("frame(2, 0)", RICH, INDEX, c -> c.frame(2, 0));
        refused("frame(1, 3)", RICH, ARGUMENT, c -> c.frame(1, 3));
        refused("frame(1, -1)", RICH, ARGUMENT, c -> c.frame(1, -1));
        refused("fill(3, 0)", RICH, INDEX, c -> c.fill(3, 0));
        refused("fill(2, 100)", RICH, ARGUMENT, c -> c.fill(2, 100));
        refused("fill(2, -1)", RICH, ARGUMENT, c -> c.fill(2, -1));
        refused("jump(2)", RICH, INDEX, c -> c.jump(2));
        refused("givenUp(2)", RICH, INDEX, c -> c.givenUp(2));
        refused("restore(0)", RICH, STATE, c -> c.restore(0));
    }

    private static void ofFull() {
        refused("append", FULL, STATE, c -> c.append('e'));
        refused("load", FULL, STATE, TentCamp::load);
        refused("pitch(1, 1)", FULL, STATE, c -> c.pitch(1, 1));
        refused("pitch(40, 8)", FULL, STATE, c -> c.pitch(40, 8));
        refused("enter()", FULL, STATE, TentCamp::enter);
        refused("jump(8)", FULL, INDEX, c -> c.jump(8));
        refused("givenUp(8)", FULL, INDEX, c -> c.givenUp(8));
        refused("frame(8, 0)", FULL, INDEX, c -> c.frame(8, 0));
        refused("tent(24, 0)", FULL, INDEX, c -> c.tent(24, 0));
        refused("fill(24, 0)", FULL, INDEX, c -> c.fill(24, 0));
        refused("restore(1)", FULL, STATE, c -> c.restore(1));
    }

    private static void ofBrim() {
        refused("pitch(1, 1)", BRIM, STATE, c -> c.pitch(1, 1));
        refused("pitch(40, 8)", BRIM, STATE, c -> c.pitch(40, 8));
        refused("tent(7, 0)", BRIM, INDEX, c -> c.tent(7, 0));
        refused("field(7, 0)", BRIM, INDEX, c -> c.field(7, 0));
        refused("place(0, 40)", BRIM, INDEX, c -> c.place(0, 40));
        // Here the text is a camp: a load that is not refused would show.
        due("load", Camps.of(BRIM).load(), 0);
    }

    /** Behind 14 actions and more a refused call forgets none of them. */
    private static void ofMany() {
        for (String state : new String[] {"14*K7", "K5 14*K7 U9", "8*e 6*p401", "8*e 6*p401 l j3 p011 p021 e e e e"}) {
            refused("pitch(41, 1)", state, ARGUMENT, c -> c.pitch(41, 1));
            refused("fill(9, 9)", state, INDEX, c -> c.fill(9, 9));
            refused("set(0, 65)", state, ARGUMENT, c -> c.set(0, 65));
            refused("jump(8)", state, INDEX, c -> c.jump(8));
            refused("restore(0)", state, STATE, c -> c.restore(0));
            refused("load()", state, STATE, TentCamp::load);
            refused("leave() or enter()", state, STATE, c -> c.about(3) == 0 ? c.leave() : c.about(3) == 8 ? c.enter() : c.load());
        }
        // Behind all undos a refused one leaves nothing to take back.
        for (String state : new String[] {"K7 u", "14*K7 14*u", "15*K7 14*u", "e s0 p011 r0"}) {
            refused("undo()", state, STATE, TentCamp::undo);
        }
    }

    /** Calls that are refused whatever there is. */
    private static void everywhere(String state) {
        refused("append(-1)", state, ARGUMENT, c -> c.append(-1));
        refused("append(256)", state, ARGUMENT, c -> c.append(256));
        refused("about(-1)", state, ARGUMENT, c -> c.about(-1));
        refused("about(14)", state, ARGUMENT, c -> c.about(14));
        refused("tent(-1, 0)", state, INDEX, c -> c.tent(-1, 0));
        refused("tent(24, 0)", state, INDEX, c -> c.tent(24, 0));
        refused("field(-1, 0)", state, INDEX, c -> c.field(-1, 0));
        refused("field(51, 0)", state, INDEX, c -> c.field(51, 0));
        refused("place(-1, 0)", state, INDEX, c -> c.place(-1, 0));
        refused("place(0, -1)", state, INDEX, c -> c.place(0, -1));
        refused("place(0, 64)", state, INDEX, c -> c.place(0, 64));
        refused("spare(-1)", state, ARGUMENT, c -> c.spare(-1));
        refused("frame(-1, 0)", state, INDEX, c -> c.frame(-1, 0));
        refused("frame(8, 0)", state, INDEX, c -> c.frame(8, 0));
        int[][] tents = {{0, 1}, {41, 1}, {-1, 8}, {1, 0}, {1, 3}, {40, 16}, {8, -8}, {Integer.MAX_VALUE, 1}, {1, Integer.MIN_VALUE}};
        for (int[] t : tents) {
            refused("pitch(" + t[0] + ", " + t[1] + ")", state, ARGUMENT, c -> c.pitch(t[0], t[1]));
            refused("where(" + t[0] + ", " + t[1] + ")", state, ARGUMENT, c -> c.where(t[0], t[1]));
            refused("more(" + t[0] + ", " + t[1] + ")", state, ARGUMENT, c -> c.more(t[0], t[1]));
        }
        refused("fill(-1, 0)", state, INDEX, c -> c.fill(-1, 0));
        refused("fill(24, 0)", state, INDEX, c -> c.fill(24, 0));
        refused("jump(-1)", state, INDEX, c -> c.jump(-1));
        refused("jump(8)", state, INDEX, c -> c.jump(8));
        int[][] settings = {{0, 7}, {0, 65}, {1, -1}, {1, 129}, {2, -1}, {2, 2}, {-1, 8}, {3, 1}};
        for (int[] s : settings) {
            refused("set(" + s[0] + ", " + s[1] + ")", state, ARGUMENT, c -> c.set(s[0], s[1]));
        }
        refused("givenUp(-1)", state, INDEX, c -> c.givenUp(-1));
        refused("givenUp(8)", state, INDEX, c -> c.givenUp(8));
        refused("runScript(0, 0)", state, ARGUMENT, c -> c.runScript(0, 0));
        refused("runScript(4, 0)", state, ARGUMENT, c -> c.runScript(4, 0));
        refused("runScript(1, -1)", state, ARGUMENT, c -> c.runScript(1, -1));
        refused("runScript(1, 100000)", state, ARGUMENT, c -> c.runScript(1, 100000));
        refused("runScript(2, 10 digits and 1)", state, ARGUMENT, c -> c.runScript(2, 10000000000L));
        refused("runScript(3, 15 digits and 1)", state, ARGUMENT, c -> c.runScript(3, 1000000000000000L));
        refused("simulate(0, 0)", state, ARGUMENT, c -> c.simulate(0, 0));
        refused("simulate(0, 100)", state, ARGUMENT, c -> c.simulate(0, 100));
        refused("simulate(0, -1)", state, ARGUMENT, c -> c.simulate(0, -1));
        for (int slot : new int[] {-1, 2}) {
            refused("save(" + slot + ")", state, INDEX, c -> c.save(slot));
            refused("restore(" + slot + ")", state, INDEX, c -> c.restore(slot));
        }
    }

    private record Refused(Class<? extends RuntimeException> want, On call) { }

    private static void severalRefused() {
        Refused[] all = {new Refused(ARGUMENT, c -> c.pitch(0, 0)), new Refused(INDEX, c -> c.fill(24, 100)),
            new Refused(INDEX, c -> c.jump(8)), new Refused(ARGUMENT, c -> c.set(3, 3)), new Refused(INDEX, c -> c.save(2)),
            new Refused(INDEX, c -> c.restore(-1)), new Refused(ARGUMENT, c -> c.append(999)),
            new Refused(ARGUMENT, c -> c.runScript(9, 9)), new Refused(ARGUMENT, c -> c.simulate(9, 999)),
            new Refused(INDEX, c -> c.givenUp(9)), new Refused(ARGUMENT, c -> c.spare(-9)), new Refused(STATE, TentCamp::load)};
        for (String state : new String[] {"", RICH, FULL}) {
            Look.alike(check, "many refused behind " + state, () -> Camps.of(state), () -> {
                TentCamp camp = Camps.of(state);
                for (Refused one : all) {
                    fails("one of many refused", one.want, () -> one.call.answer(camp));
                }
                return camp;
            });
        }
    }

    private static void firstNamed() {
        sentence("If several exceptions apply to a call, the one that its description names first is thrown.");
        refused("append: argument, then a full text", FULL, ARGUMENT, c -> c.append(-1));
        refused("append: argument, then a full text", FULL, ARGUMENT, c -> c.append(256));
        refused("tent: index, then what", RICH, INDEX, c -> c.tent(3, 5));
        refused("tent: index, then what", RICH, INDEX, c -> c.tent(-1, -1));
        refused("field: index, then what", RICH, INDEX, c -> c.field(2, 5));
        refused("field: index, then what", RICH, INDEX, c -> c.field(-1, -1));
        refused("frame: index, then what", RICH, INDEX, c -> c.frame(2, 3));
        refused("frame: index, then what", RICH, INDEX, c -> c.frame(-1, -1));
        refused("fill: index, then v", RICH, INDEX, c -> c.fill(3, 100));
        refused("fill: index, then v", RICH, INDEX, c -> c.fill(-1, -1));
        refused("pitch: argument, then 24 tents", FULL, ARGUMENT, c -> c.pitch(0, 1));
        refused("pitch: argument, then 24 tents", FULL, ARGUMENT, c -> c.pitch(1, 3));
        refused("pitch: argument, then no place", BRIM, ARGUMENT, c -> c.pitch(41, 1));
        refused("pitch: argument, then no place", BRIM, ARGUMENT, c -> c.pitch(40, 16));
        refused("set: both", RICH, ARGUMENT, c -> c.set(3, 999));
        refused("restore: index, then an empty slot", "", INDEX, c -> c.restore(2));
        refused("restore: index, then an empty slot", "", INDEX, c -> c.restore(-1));
        refused("runScript: both", RICH, ARGUMENT, c -> c.runScript(4, -1));
    }

    /** Calls that are not refused and only tell. */
    private static void onlyTell() {
        sentence("what would be; these and all following methods up to the save slots change nothing.");
        for (String state : new String[] {"", "p031", RICH, FULL, BRIM, "K0 e 3*p401 e p011 14*f0011"}) {
            tells("where", state, c -> c.where(40, 8) + c.where(1, 1) + c.where(16, 1));
            tells("more", state, c -> c.more(1, 1) + c.more(40, 8) + c.more(8, 2));
            tells("bestSize", state, TentCamp::bestSize);
            tells("givenUp", state, c -> c.about(3) == 0 ? 0 : c.givenUp(0) + c.givenUp(c.about(3) - 1));
            tells("runScript, pitch and fill", state, c -> c.runScript(3, 100118401140077L) + c.runScript(1, 10401));
            tells("runScript, frames", state, c -> c.runScript(3, 300002000120000L) + c.runScript(2, 2000010202L));
            tells("runScript, looks", state, c -> c.runScript(3, 502566025670000L) + c.runScript(2, 8000090024L));
            tells("simulate", state, c -> c.simulate(1, 99) + c.simulate(-1, 50) + c.simulate(Long.MIN_VALUE, 1));
            tells("about", state, c -> c.about(0) + c.about(7) + c.about(13));
            tells("spare", state, c -> c.spare(0) + c.spare(99));
            tells("errorPosition", state, TentCamp::errorPosition);
            tells("tent, field, place, frame", state, c -> c.about(0) == 0 ? 0 : c.tent(0, 4) + c.field(0, 4) + c.place(0, 0));
            tells("frame", state, c -> c.about(3) == 0 ? 0 : c.frame(0, 2));
        }
    }

    private static void tells(String what, String state, On call) {
        Look.alike(check, what + " behind \"" + state + "\"", () -> Camps.of(state), () -> {
            TentCamp camp = Camps.of(state);
            long first = call.answer(camp);
            due(what + " tells the same twice", call.answer(camp), first);
            return camp;
        });
    }
}
