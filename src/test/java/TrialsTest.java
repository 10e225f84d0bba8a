import java.math.BigInteger;

/** The sentences on what would be, on scripts and simulations: the last that is allowed, the first that is not. */
public final class TrialsTest extends Due {
    /** Camps that differ in all that matters for a trial. */
    private static final String[] STATES = {
        "",
        "p031",
        "K90 p031 f0009 p018 e e p201 p401 p171 j1 p161 f0233 p021",
        "U8 K128 P0 e p051 e 7*p081 e p401 p401 l e p331",
        "8*e 6*p401 p161",
        "24*p011 7*e",
        "U64 K0 e p321 p204 e p408 p101 e p011 p158",
        "K30 e p161 p091 e p161 p081 e p071 p081 e p201 j2 e e e e"
    };

    private TrialsTest() { }

    public static void main(String[] args) {
        check = new Check("TrialsTest");
        where();
        whereWithoutRoom();
        whereMatches();
        givenUp();
        givenUpMatches();
        bestSizeOfNone();
        bestSizes();
        bestSizeMatches();
        noBestSize();
        frames();
        more();
        moreBeyond24();
        moreMatches();
        scriptLength();
        scriptDigits();
        firstOfScript();
        allGroups();
        failing();
        thresholds();
        fieldOfScript();
        doneByScript();
        trialsApart();
        onACopy();
        simulateRange();
        overflow();
        everyRest();
        simulateMatches();
        leftOut();
        struckInThem();
        check.end();
    }

    private static void where() {
        sentence("Returns 0: on the last usual field; 1: on a spare field; 2: on a new one; 3: it is not possible (24 tents that stand do not matter).");
        TentCamp camp = Camps.of("K128 p081 e p201 l");
        due("8 fit on the last one", camp.where(8, 8), 0);
        due("9 on the spare one", camp.where(9, 1), 1);
        due("20 on the spare one", camp.where(20, 8), 1);
        due("21 on a new one", camp.where(21, 1), 2);
        due("40 on a new one", camp.where(40, 8), 2);
        Camps.go(camp, "4*p401 p151 p151");
        due("15 took the spare one, and a new one", camp.about(9), 16 + 20 + 160 + 15);
        due("40 on a new one", camp.where(40, 1), 2);
        Camps.go(camp, "p091");
        due("36 on a new one", camp.where(36, 1), 2);
        due("37 nowhere", camp.where(37, 1), 3);
        due("8 on the last one still", camp.where(8, 1), 0);
        due("8 fit to the end", camp.pitch(8, 1), 8);
        due("now on a new one", camp.where(8, 1), 2);
        for (int n = 0; n <= 24; n++) {
            TentCamp many = Camps.of(n + "*p011");
            due("tents do not matter", many.where(1, 1), n == 0 || n == 16 ? 2 : 0);
            due("tents do not matter", many.where(40, 1), 2);
        }
    }

    private static void whereWithoutRoom() {
        sentence("3: it is not possible (24 tents that stand do not matter).");
        TentCamp all = Camps.of("16*p091 7*p161 e");
        due("256 places, 23 tents", all.where(1, 1), 3);
        TentCamp full = Camps.of("22*p101 p201 p081");
        due("24 tents", full.about(0), 24);
        due("256 places", full.about(9), 256);
        due("8 are left on the last usual one", full.where(8, 1), 0);
        due("9 are not", full.where(9, 1), 3);
    }

    /** pitch goes where where says, or fails where it says 3. */
    private static void whereMatches() {
        sentence("Tells where a tent would be pitched.");
        for (String state : STATES) {
            if (Camps.of(state).about(0) == 24) {
                continue;
            }
            for (int n = 1; n <= 40; n++) {
                for (int s : STEPS) {
                    int size = n;
                    int step = s;
                    TentCamp camp = Camps.of(state);
                    int fields = camp.about(1);
                    int spares = camp.about(2);
                    int where = camp.where(n, s);
                    String what = "pitch(" + n + ", " + s + ") behind " + state;
                    if (where == 3) {
                        fails(what, STATE, () -> camp.pitch(size, step));
                        continue;
                    }
                    camp.pitch(n, s);
                    due(what + ": new in use", camp.about(1) - fields, where == 0 ? 0 : 1);
                    due(what + ": spare no longer", spares - camp.about(2), where == 1 ? 1 : 0);
                }
            }
        }
    }

    private static void givenUp() {
        sentence("Returns how many places of fields would be given up by jump(i).");
        TentCamp camp = Camps.of("K48 p081 e p161 p091 e p161 p171 e p401");
        due("behind frame 2: 40 are kept", camp.givenUp(2), 0);
        due("behind frame 1: 73, 40 goes", camp.givenUp(1), 40);
        due("behind frame 0: 98, 40 and 17 go", camp.givenUp(0), 57);
        camp.set(1, 33);
        due("33 are kept of 73", camp.givenUp(1), 40);
        camp.set(1, 32);
        due("16 are kept of 73", camp.givenUp(1), 57);
        camp.set(1, 0);
        due("all behind frame 2", camp.givenUp(2), 40);
        due("all behind frame 0", camp.givenUp(0), 98);
        camp.set(1, 98);
        due("98 are kept", camp.givenUp(0), 0);
        camp.set(1, 97);
        due("97 are kept", camp.givenUp(0), 40);
        due("nothing was struck", camp.about(0), 6);
        // Spare ones that there are already count.
        TentCamp spares = Camps.of("K128 e p201 p301 j0 K50 p031 j0");
        due("50 are kept", spares.givenUp(0), 0);
        spares.set(1, 49);
        due("30 goes", spares.givenUp(0), 30);
        due("24 fields", Camps.of("U8 K0 e 24*p051").givenUp(0), 120);
        due("256 places", Camps.of("K0 e 6*p401 p161").givenUp(0), 256);
    }

    private static void givenUpMatches() {
        sentence("Tells what a jump would give up.");
        for (String state : STATES) {
            int count = Camps.of(state).about(3);
            for (int i = 0; i < count; i++) {
                for (int keeps : new int[] {0, 10, 16, 40, 64, 90, 127, 128}) {
                    TentCamp camp = Camps.of(state + " K" + keeps);
                    int before = camp.about(5) + camp.about(6);
                    int would = camp.givenUp(i);
                    camp.jump(i);
                    due("givenUp(" + i + ") of " + state + " K" + keeps, would, before - camp.about(5) - camp.about(6));
                }
            }
        }
    }

    private static void bestSizeOfNone() {
        sentence("Finds the best usual size.");
        due("no tents", new TentCamp().bestSize(), 8);
        due("no tents, 64", Camps.of("U64").bestSize(), 8);
        due("all struck", Camps.of("e 5*p031 l").bestSize(), 8);
    }

    private static void bestSizes() {
        sentence("would need the fewest places of fields, among several the smallest one");
        due("a big one of each size", Camps.of("p401").bestSize(), 8);
        due("4 of 8 are not big", Camps.of("p041").bestSize(), 8);
        due("two of 4", Camps.of("p041 p041").bestSize(), 8);
        due("three of 4", Camps.of("3*p041").bestSize(), 12);
        due("three of 3", Camps.of("3*p031").bestSize(), 9);
        due("five of 4: 20 is better than 24", Camps.of("5*p041").bestSize(), 20);
        due("a gap costs as much as a tent", Camps.of("p011 p018").bestSize(), 9);
        due("5, and 3 from 8 on", Camps.of("p051 p038").bestSize(), 11);
        // 21 of 3 and one of 1: only one field of 64 has no place to spare.
        due("64 is the best", Camps.of("21*p031 p011").bestSize(), 64);
        due("and it stays so for other settings", Camps.of("U8 K0 P0 21*p031 p011").bestSize(), 64);
        // With one more of 1 only a field of 65 would have none, but 64 is the greatest; with 33 two fields do.
        due("65 is none", Camps.of("21*p031 p011 p011").bestSize(), 33);
        due("66 places", needed(Camps.of("21*p031 p011 p011"), 33), 66);
        // With 7 one field of 7, or a big one of 4, would do, but 8 is the smallest.
        due("7 is none", Camps.of("p031").bestSize(), 8);
        due("7 is none", Camps.of("p041").bestSize(), 8);
        due("7 is none", Camps.of("p031 p041").bestSize(), 8);
    }

    /** The places that the tents need with a usual size, pitched on an object of their own; 257 if it is not possible. */
    private static int needed(TentCamp tents, int usual) {
        TentCamp camp = Camps.of("U" + usual);
        for (int t = 0; t < tents.about(0); t++) {
            if (camp.where(tents.tent(t, 2), tents.tent(t, 3)) == 3) {
                return 257;
            }
            camp.pitch(tents.tent(t, 2), tents.tent(t, 3));
        }
        return camp.about(5);
    }

    private static void bestSizeDue(String state) {
        TentCamp tents = Camps.of(state);
        int best = NONE;
        int fewest = 257;
        for (int usual = 8; usual <= 64; usual++) {
            int places = needed(Camps.of(state), usual);
            if (places < fewest) {
                fewest = places;
                best = usual;
            }
        }
        due("bestSize of " + state, tents.bestSize(), best);
    }

    private static void bestSizeMatches() {
        sentence("Returns the usual size with which the tents that stand, pitched in a new camp in their order, would need the fewest places of fields");
        for (String state : STATES) {
            bestSizeDue(state);
        }
        for (int n = 1; n <= 40; n++) {
            bestSizeDue("p" + two(n) + "1 p" + two(41 - n) + "8 p" + two((n * 7) % 40 + 1) + "2");
            bestSizeDue("U64 3*p" + two(n) + "1 2*p051");
            bestSizeDue("U40 p068 p" + two(n) + "4 p038 p131");
        }
    }

    private static void noBestSize() {
        sentence("NONE if with none of them all could be pitched (frames do not matter).");
        // 255 places with three usual sizes; with one alone 257 at least (with 57).
        String three = "5*p401 U30 p161 p014 p261 U11 p098";
        due("three sizes", Camps.of(three).about(9), 255);
        due("none", Camps.of(three).bestSize(), NONE);
        due("57 needs too many", needed(Camps.of(three), 57), 257);
        due("256 is not too many", Camps.of("6*p401 p161").bestSize(), 8);
        due("256 with 24 tents", Camps.of("22*p101 p201 p081").bestSize(), 8);
        bestSizeDue(three);
        // 256 with the usual size 11, more than 256 with every other one.
        String one = "U11 p071 p131 p091 p241 p242 p078 p248 p034 p134 p241 p122 p038 p028 p041 p051 p142 p101 p111 p101 p162 p068 p101";
        due("all 256 places", Camps.of(one).about(9), 256);
        due("the only one", Camps.of(one).bestSize(), 11);
        due("12 needs too many", needed(Camps.of(one), 12), 257);
        bestSizeDue(one);
    }

    private static void frames() {
        sentence("(frames do not matter)");
        for (String tents : new String[] {"", "p031 p058 p401", "3*p041", "21*p031 p011"}) {
            int best = Camps.of(tents).bestSize();
            due("frames behind", Camps.of(tents + " 8*e").bestSize(), best);
            due("frames ahead", Camps.of("8*e " + tents).bestSize(), best);
            due("keeps 0", Camps.of("K0 e " + tents).bestSize(), best);
            due("keeps 128", Camps.of("K128 e " + tents).bestSize(), best);
        }
    }

    private static void more() {
        sentence("Returns how many like that, one after the other, until it is not possible (24 at one time do not matter).");
        for (int u = 8; u <= 64; u++) {
            TentCamp camp = Camps.of("U" + u);
            for (int n = 1; n <= 40; n++) {
                for (int s : STEPS) {
                    int perField = n > u / 2 ? 1 : 1 + (u - n) / up(n, s);
                    int places = n > u / 2 ? n : u;
                    due("more(" + n + ", " + s + ") with " + u, camp.more(n, s), 256 / places * perField);
                }
            }
        }
    }

    private static void moreBeyond24() {
        sentence("(24 at one time do not matter)");
        due("256", new TentCamp().more(1, 1), 256);
        for (int n = 0; n <= 24; n++) {
            TentCamp camp = Camps.of(n + "*p011");
            due("behind " + n, camp.more(1, 1), 256 - n);
            due("40 behind " + n, camp.more(40, 1), n == 0 ? 6 : n <= 16 ? 6 : 5);
        }
        due("none", Camps.of("6*p401 p161").more(1, 1), 0);
        due("one", Camps.of("6*p401 p151").more(1, 1), 0);
        due("one place is left on the last usual one", Camps.of("6*p401 p081 p071").more(1, 1), 1);
        due("but none for 2", Camps.of("6*p401 p081 p071").more(2, 1), 0);
        due("15 of 9 and then none", Camps.of("3*p401").more(9, 1), (256 - 120) / 9);
        // Spare fields, then new ones; the last spare one is used as far as it goes.
        String spares = "K128 e p201 p201 j0 5*p401";
        due("two spare ones of 20 and 16 new places, big", Camps.of(spares).more(9, 1), 2 + 1);
        due("two spare ones of 20 and 16 new places, usual", Camps.of(spares).more(5, 1), 2 * 4 + 3);
    }

    private static void moreMatches() {
        sentence("Tells how many more tents could be pitched.");
        for (String state : STATES) {
            for (int n = 1; n <= 40; n++) {
                TentCamp camp = Camps.of(state);
                int stood = camp.about(0);
                int more = camp.more(n, 4);
                int pitched = 0;
                while (stood + pitched < 24 && camp.where(n, 4) != 3) {
                    camp.pitch(n, 4);
                    pitched++;
                }
                due("tents of " + n + " behind " + state, pitched, Math.min(more, 24 - stood));
            }
        }
    }

    private static void scriptLength() {
        sentence("A script has 1 to 3 commands; each is a group of five decimal digits d1 to d5, and the first command is the highest group of "
            + "the number (with zeros before it, if it has fewer digits).");
        sentence("n: number of commands, 1 to 3");
        TentCamp camp = Camps.of("p031");
        range("n", 1, 3, ARGUMENT, n -> camp.runScript(n, 0));
        long fine = 90000;
        due("one command", camp.runScript(1, fine), NONE);
        due("two commands", camp.runScript(2, fine * 100001), NONE);
        due("three commands", camp.runScript(3, fine * 10000100001L), NONE);
        due("one of two", camp.runScript(2, fine), 0);
        due("one of three", camp.runScript(3, fine), 0);
        due("two of three", camp.runScript(3, fine * 100001), 0);
        fails("two in one", ARGUMENT, () -> camp.runScript(1, fine * 100001));
        fails("three in two", ARGUMENT, () -> camp.runScript(2, fine * 10000100001L));
        fails("n 0 with a fine script", ARGUMENT, () -> camp.runScript(0, fine));
        fails("n 4 with a fine script", ARGUMENT, () -> camp.runScript(4, fine));
    }

    private static void scriptDigits() {
        sentence("script: the commands, a number of at most 5 * n digits (0 or more)");
        sentence("Throws IllegalArgumentException if n is out of range, or if script is negative or has more than 5 * n digits");
        TentCamp camp = Camps.of("e");
        long most = 1;
        for (int n = 1; n <= 3; n++) {
            most *= 100000;
            int commands = n;
            long first = most;
            due("the last of " + n, camp.runScript(n, most - 1), 0);
            fails("the first that is too long for " + n, ARGUMENT, () -> camp.runScript(commands, first));
            fails("one behind it", ARGUMENT, () -> camp.runScript(commands, first + 1));
            fails("ten times that", ARGUMENT, () -> camp.runScript(commands, first * 10));
            due("0", camp.runScript(n, 0), 0);
            for (long script : new long[] {-1, -2, -20000, -99999, -first, Integer.MIN_VALUE, Long.MIN_VALUE, Long.MIN_VALUE + 20000}) {
                fails("script " + script, ARGUMENT, () -> camp.runScript(commands, script));
            }
            fails("the greatest", ARGUMENT, () -> camp.runScript(commands, Long.MAX_VALUE));
        }
        // With fewer digits there are zeros before it, and no command begins with one.
        long all = 900009000090000L;
        due("15 digits", camp.runScript(3, all), NONE);
        due("10 digits", camp.runScript(2, all / 100000), NONE);
        due("5 digits", camp.runScript(1, all / 10000000000L), NONE);
        for (long less = all / 10; less > 0; less /= 10) {
            due("three commands: " + less, camp.runScript(3, less), 0);
        }
        for (long less = all / 1000000; less > 0; less /= 10) {
            due("two commands: " + less, camp.runScript(2, less), 0);
        }
        for (long less = all / 100000000000L; less > 0; less /= 10) {
            due("one command: " + less, camp.runScript(1, less), 0);
        }
        // Numbers that would be fine if they were cut to an int.
        fails("20000 and 2 to the 32", ARGUMENT, () -> camp.runScript(1, 20000 + (1L << 32)));
        due("as two commands: 42949 and 87296", camp.runScript(2, 20000 + (1L << 32)), 0);
        fails("20000 and 2 to the 62", ARGUMENT, () -> camp.runScript(3, 20000 + (1L << 62)));
        fails("both wrong", ARGUMENT, () -> camp.runScript(0, -1));
    }

    private static void firstOfScript() {
        sentence("Returns the index, from 0, of the first command that fails; NONE if all succeed.");
        TentCamp camp = new TentCamp();
        int[] kinds = {20000, 20002};
        for (int a = 0; a < 2; a++) {
            for (int b = 0; b < 2; b++) {
                due("of two", camp.runScript(2, kinds[a] * 100000L + kinds[b]), a == 1 ? 0 : b == 1 ? 1 : NONE);
                for (int c = 0; c < 2; c++) {
                    long script = (kinds[a] * 100000L + kinds[b]) * 100000L + kinds[c];
                    due("of three", camp.runScript(3, script), a == 1 ? 0 : b == 1 ? 1 : c == 1 ? 2 : NONE);
                }
            }
        }
        due("one that fails", camp.runScript(1, 20002), 0);
        due("one that succeeds", camp.runScript(1, 20000), NONE);
        // The first command is the highest group.
        due("enter, then leave", camp.runScript(2, 2000020001L), NONE);
        due("leave, then enter", camp.runScript(2, 2000120000L), 0);
        due("pitch(1, 8), fill(0, 7), at least one stands", camp.runScript(3, 100184000790001L), NONE);
        due("fill(0, 7), pitch(1, 8)", camp.runScript(2, 4000710018L), 0);
    }

    /** Whether a group succeeds, by its five digits. */
    private static boolean succeeds(TentCamp camp, String g) {
        int tt = Integer.parseInt(g.substring(1, 3));
        int vv = Integer.parseInt(g.substring(3));
        int xyz = Integer.parseInt(g.substring(2));
        int last = g.charAt(4) - '0';
        int size = xyz / 10;
        boolean zero = g.charAt(1) == '0';
        boolean zeros = zero && g.charAt(2) == '0';
        boolean allowed = size >= 1 && size <= 40 && (last == 1 || last == 2 || last == 4 || last == 8);
        switch (g.charAt(0)) {
            case '1': return zero && allowed && camp.about(0) < 24 && camp.where(size, last) != 3;
            case '2': return g.equals("20000") && camp.about(3) < 8 || g.equals("20001") && camp.about(3) > 0;
            case '3': return g.startsWith("3000") && last < camp.about(3);
            case '4': return tt < camp.about(0);
            case '5': return zero && camp.about(4) <= xyz;
            case '6': return zero && camp.about(7) <= xyz;
            case '7': return g.charAt(3) == '0' && tt < camp.about(0) && camp.tent(tt, 0) == last;
            case '8': return zeros && camp.about(2) <= vv;
            case '9': return zeros && camp.about(0) >= vv;
            default: return false;
        }
    }

    private static void allGroups() {
        sentence("and so does any other group (also one with another digit where a 0 is written, or another k)");
        for (String state : STATES) {
            TentCamp facts = Camps.of(state);
            TentCamp camp = Camps.of(state);
            for (int group = 0; group <= 99999; group++) {
                if (group % 150 == 0) {
                    facts = Camps.of(state);
                    camp = Camps.of(state);
                }
                String g = three(group / 100) + two(group % 100);
                due("group " + g + " behind " + state, camp.runScript(1, group), succeeds(facts, g) ? NONE : 0);
            }
        }
    }

    private static void failing() {
        sentence("The commands 1 to 4 fail if the method would throw an exception; commands with tents that do not exist fail");
        sentence("4 t t v v: fill(tt, vv).");
        sentence("xy, tt, vv, nn and xyz are decimal numbers.");
        for (int n = 0; n <= 24; n++) {
            TentCamp camp = Camps.of(n + "*p011");
            for (int t = Math.max(n - 2, 0); t <= n + 2; t++) {
                due("fill " + t + " of " + n, camp.runScript(1, 40000 + 100 * t), t < n ? NONE : 0);
                due("fill " + t + " of " + n, camp.runScript(1, 40099 + 100 * t), t < n ? NONE : 0);
                due("tent " + t + " of " + n, camp.runScript(1, 70000 + 100 * t + t / 16), t < n ? NONE : 0);
            }
            due("fill 99 of " + n, camp.runScript(1, 49999), 0);
            due("at least " + n, camp.runScript(1, 90000 + n), NONE);
            due("at least " + (n + 1), camp.runScript(1, 90000 + n + 1), 0);
            due("at most " + n, camp.runScript(1, 50000 + n), NONE);
            if (n > 0) {
                due("at most " + (n - 1), camp.runScript(1, 50000 + n - 1), 0);
            }
            due("one more", camp.runScript(1, 10011), n < 24 ? NONE : 0);
        }
        for (int n = 0; n <= 8; n++) {
            TentCamp camp = Camps.of(n + "*e");
            for (int i = 0; i <= 9; i++) {
                due("jump(" + i + ") of " + n, camp.runScript(1, 30000 + i), i < n ? NONE : 0);
            }
            due("enter behind " + n, camp.runScript(1, 20000), n < 8 ? NONE : 0);
            due("leave of " + n, camp.runScript(1, 20001), n > 0 ? NONE : 0);
            for (int k = 2; k <= 9; k++) {
                due("k " + k, camp.runScript(1, 20000 + k), 0);
            }
        }
    }

    private static void thresholds() {
        sentence("8 0 0 n n: succeeds if at most nn fields are spare. 9 0 0 n n: succeeds if at least nn tents stand.");
        sentence("5 0 x y z: succeeds if all tents together have at most xyz places. 6 0 x y z: succeeds if all gaps together are at most xyz places.");
        for (String state : STATES) {
            TentCamp camp = Camps.of(state);
            int[] facts = {camp.about(4), camp.about(7), camp.about(2), camp.about(0)};
            due("tents' places", camp.runScript(1, 50000 + facts[0]), NONE);
            due("one less", camp.runScript(1, 50000 + facts[0] - 1), 0);
            due("gaps", camp.runScript(1, 60000 + facts[1]), NONE);
            due("one less", camp.runScript(1, 60000 + facts[1] - 1), 0);
            due("spare ones", camp.runScript(1, 80000 + facts[2]), NONE);
            due("one less", camp.runScript(1, 80000 + facts[2] - 1), 0);
            due("tents", camp.runScript(1, 90000 + facts[3]), NONE);
            due("one more", camp.runScript(1, 90000 + facts[3] + 1), 0);
            due("at most 999", camp.runScript(3, 509996099980099L), NONE);
            due("at least 0", camp.runScript(1, 90000), NONE);
            due("at least 99", camp.runScript(1, 90099), 0);
        }
    }

    private static void fieldOfScript() {
        sentence("7 t t 0 f: succeeds if the tent tt lies on the field f.");
        // A field is one digit; the 0 ahead of it is none of its digits.
        TentCamp camp = Camps.of("U8 24*p051");
        for (int t = 0; t <= 25; t++) {
            for (int f = 0; f <= 12; f++) {
                due("tent " + t + " on field " + f, camp.runScript(1, 70000 + 100 * t + f), t == f && f <= 9 ? NONE : 0);
            }
            if (t > 9) {
                due("tent " + t + " on field " + t, camp.runScript(1, 70000 + 101 * t), 0);
            }
        }
        due("another field 0", Camps.of("p081 p081 p011").runScript(3, 700007010070201L), NONE);
    }

    /** What a command of a script does shows in the one behind it. */
    private static void doneByScript() {
        sentence("1 0 x y s: pitch(xy, s).");
        for (int n = 1; n <= 40; n++) {
            for (int s : STEPS) {
                TentCamp done = Camps.of("p011 p" + two(n) + s);
                TentCamp camp = Camps.of("p011");
                long pitch = (10000 + 10 * n + s) * 100000L;
                int gaps = done.about(7);
                String what = "pitch(" + n + ", " + s + ")";
                due(what + ", gaps", camp.runScript(2, pitch + 60000 + gaps), NONE);
                if (gaps > 0) {
                    due(what + ", less gaps", camp.runScript(2, pitch + 60000 + gaps - 1), 1);
                }
                due(what + ", places", camp.runScript(2, pitch + 50000 + 1 + n), NONE);
                due(what + ", less places", camp.runScript(2, pitch + 50000 + n), 1);
                due(what + ", its field", camp.runScript(2, pitch + 70100 + done.tent(1, 0)), NONE);
                due(what + ", another field", camp.runScript(2, pitch + 70100 + 1 - done.tent(1, 0)), 1);
            }
        }
        sentence("2 0 0 0 k: k 0: enter(); 1: leave(). 3 0 0 0 i: jump(i).");
        TentCamp camp = Camps.of("p031 e p161 e p161");
        due("leave: one struck", camp.runScript(3, 200019000290003L), 2);
        due("jump(1): one struck", camp.runScript(3, 300019000290003L), 2);
        due("jump(0): two struck", camp.runScript(2, 3000090002L), 1);
        due("jump(0): one stands", camp.runScript(2, 3000090001L), NONE);
        due("jump(0), then none is behind it", camp.runScript(2, 3000030001L), 1);
        due("jump(0), then it stays", camp.runScript(2, 3000030000L), NONE);
        due("leave, then frame 1 is gone", camp.runScript(2, 2000130001L), 1);
        due("leave, then one is spare", camp.runScript(2, 2000180001L), NONE);
        due("leave, then not none", camp.runScript(2, 2000180000L), 1);
        due("jump(0), then two are spare", camp.runScript(2, 3000080001L), 1);
        due("enter, then jump(2)", camp.runScript(2, 2000030002L), NONE);
        due("leave, pitch takes the spare one", camp.runScript(3, 200011016180000L), NONE);
        due("nothing was done", camp.about(0), 3);
    }

    /** A trial finds nothing of the one ahead of it. */
    private static void trialsApart() {
        sentence("what would be; these and all following methods up to the save slots change nothing.");
        for (String state : STATES) {
            int count = Camps.of(state).about(3);
            for (int first = 0; first < 7; first++) {
                for (int then = 0; then < 7; then++) {
                    long alone = trial(Camps.of(state), then, count);
                    TentCamp camp = Camps.of(state);
                    trial(camp, first, count);
                    due("trial " + then + " behind trial " + first, trial(camp, then, count), alone);
                }
            }
        }
    }

    private static long trial(TentCamp camp, int which, int frames) {
        switch (which) {
            case 0: return camp.bestSize();
            case 1: return camp.more(7, 4);
            case 2: return frames == 0 ? 0 : camp.givenUp(0);
            case 3: return frames == 0 ? 0 : camp.givenUp(frames - 1);
            case 4: return camp.runScript(3, 300001004110401L);
            case 5: return camp.simulate(77, 60);
            default: return camp.where(16, 1);
        }
    }

    private static void onACopy() {
        sentence("Runs a script on a copy of the state.");
        TentCamp camp = Camps.of("p031 f0005 e");
        due("pitch, then two stand", camp.runScript(2, 1005190002L), NONE);
        due("one stands", camp.about(0), 1);
        due("pitch, then leave, then leave", camp.runScript(3, 101012000120001L), 2);
        due("the frame is there", camp.about(3), 1);
        due("fill", camp.runScript(1, 40077), NONE);
        due("its value stays", camp.place(0, 2), 5);
        due("two actions can be taken back", camp.undo(), 2);
        Look.alike(check, "scripts and simulations change nothing", () -> Camps.of(STATES[2]), () -> {
            TentCamp tried = Camps.of(STATES[2]);
            tried.runScript(3, 101018200013000L);
            tried.runScript(3, 400773000010401L);
            tried.simulate(Long.MIN_VALUE, 99);
            return tried;
        });
    }

    private static void simulateRange() {
        sentence("seed: any long");
        sentence("A long x starts as the seed.");
        sentence("Throws IllegalArgumentException if m is out of range");
        sentence("m: number of steps, 1 to 99");
        TentCamp camp = Camps.of("p031");
        range("m", 1, 99, ARGUMENT, m -> camp.simulate(5, m));
        TentCamp other = Camps.of("p031");
        range("m", 1, 99, ARGUMENT, m -> other.simulate(Long.MIN_VALUE, m));
        for (long seed : new long[] {Long.MIN_VALUE, Long.MIN_VALUE + 1, -1, 0, 1, Integer.MAX_VALUE, 1L << 32, Long.MAX_VALUE - 1, Long.MAX_VALUE}) {
            due("any seed", camp.simulate(seed, 1) >= 16 ? 1 : 0, 1);
        }
    }

    private static int simulated(String state, int[] rs) {
        TentCamp camp = Camps.of(state);
        int struck = 0;
        for (int r : rs) {
            int kind = r % 8;
            if (kind <= 1 && camp.about(3) < 8) {
                camp.enter();
            } else if (kind == 2 && camp.about(3) > 0) {
                struck += camp.leave();
            } else if (kind == 3 && r / 8 % 8 < camp.about(3)) {
                struck += camp.jump(r / 8 % 8);
            } else if (kind >= 4) {
                int size = 1 + r / 8 % 20;
                int step = new int[] {1, 2, 4, 8}[r / 256 % 4];
                if (camp.about(0) < 24 && camp.where(size, step) != 3) {
                    camp.pitch(size, step);
                }
            }
        }
        return 1000 * struck + camp.about(5) + camp.about(6);
    }

    private static void simulateDue(String state, long seed, int m) {
        due("simulate(" + seed + ", " + m + ") behind " + state, Camps.of(state).simulate(seed, m), simulated(state, Seeds.steps(seed, m)));
    }

    private static void overflow() {
        sentence("Each step first replaces x by x * 6364136223846793005L + 1442695040888963407L (with long overflow), and r = (int) (x >>> 33) is computed.");
        // Values of x on both sides of where it comes round: 0, 2 to the 33, 2 to the 63, 2 to the 64.
        for (int power : new int[] {0, 33, 34, 36, 40, 41, 42, 62, 63, 64}) {
            BigInteger x = BigInteger.ONE.shiftLeft(power);
            for (int beside = -2; beside <= 2; beside++) {
                long seed = Seeds.before(x.add(BigInteger.valueOf(beside)));
                for (String state : STATES) {
                    for (int m = 1; m <= 3; m++) {
                        simulateDue(state, seed, m);
                    }
                }
            }
        }
        long[] seeds = {0, 1, -1, 2, -2, Integer.MAX_VALUE, Integer.MIN_VALUE, 1L << 31, 1L << 32, 1L << 62, Long.MAX_VALUE, Long.MIN_VALUE,
            Long.MAX_VALUE - 1, Long.MIN_VALUE + 1, 6364136223846793005L, 1442695040888963407L, -6364136223846793005L, 1234567890123456789L};
        for (long seed : seeds) {
            for (int m : new int[] {1, 2, 3, 50, 98, 99}) {
                simulateDue(STATES[2], seed, m);
            }
        }
        // The greatest r, 2147483647: pitch(16, 8).
        due("greatest r", Camps.of("p011").simulate(Seeds.before(2147483647L), 1), 16 + 16);
        due("r of 0: enter", Camps.of("p011").simulate(Seeds.before(0), 1), 16);
    }

    private static void everyRest() {
        sentence("By r % 8: 0 and 1: enter(). 2: leave(). 3: jump(r / 8 % 8). 4 to 7: pitch(1 + r / 8 % 20, 1 << r / 256 % 4).");
        for (int r = 0; r < 1300; r++) {
            simulateDue("U20 p031 e p018 e p201 e p051 e", Seeds.before(r), 1);
        }
        for (long r = 2147483647L; r > 2147483647L - 300; r--) {
            simulateDue("U20 p031 e p018 e p201 e p051 e", Seeds.before(r), 1);
        }
        // Each size and each step, told by the places that are free behind: only where it fits there is no new field.
        for (int n = 1; n <= 20; n++) {
            for (int s : STEPS) {
                for (int e = 1; e <= 16; e++) {
                    int want = up(e, s) + n <= 16 ? 16 : n <= 8 ? 32 : 16 + n;
                    TentCamp camp = Camps.of(e <= 8 ? "p" + two(e) + "1" : "p081 p" + two(e - 8) + "1");
                    due("pitch(" + n + ", " + s + ") behind " + e, camp.simulate(Seeds.pitching(n, s), 1), want);
                }
            }
        }
        for (int frames = 0; frames <= 8; frames++) {
            StringBuilder state = new StringBuilder();
            for (int i = 0; i < frames; i++) {
                state.append(" e p011 p011");
            }
            for (int i = 0; i < 8; i++) {
                int struck = i < frames ? 2 * (frames - i) : 0;
                due("jump(" + i + ") of " + frames, Camps.of(state.toString()).simulate(Seeds.before(3 + 8 * i), 1) / 1000, struck);
                due("jump(" + i + ") of " + frames, Camps.of(state.toString()).simulate(Seeds.before(3 + 8 * (i + 8)), 1) / 1000, struck);
            }
            due("leave", Camps.of(state.toString()).simulate(Seeds.before(2), 1) / 1000, frames == 0 ? 0 : 2);
        }
    }

    private static void simulateMatches() {
        sentence("Simulates m steps on a copy of the state.");
        for (String state : STATES) {
            for (int m = 1; m <= 99; m++) {
                simulateDue(state, 1000003L * m * m * m - 77, m);
                simulateDue(state, m, 99);
            }
        }
    }

    private static void leftOut() {
        sentence("What would throw an exception is left out.");
        due("leave without a frame, then a tent", Camps.of("").simulate(Seeds.doing("l"), 1), 0);
        due("a jump without a frame", Camps.of("p011").simulate(Seeds.doing("j"), 1), 16);
        due("a ninth frame", Camps.of("8*e p011").simulate(Seeds.doing("el"), 2), 1016);
        due("a 25th tent", Camps.of("24*p011").simulate(Seeds.pitching(20, 1), 1), 32);
        due("a 257th place", Camps.of("6*p401 p161").simulate(Seeds.pitching(1, 1), 1), 256);
        due("all 99 of a full camp", Camps.of("6*p401 p161").simulate(3, 99), 256);
    }

    private static void struckInThem() {
        sentence("Returns 1000 * (the tents that are struck in them) + (the places of all fields at the end, spare ones too).");
        due("24 at once, 32 are kept", Camps.of("e 24*p011").simulate(Seeds.doing("l"), 1), 24032);
        due("24 at once, none are kept", Camps.of("K0 e 24*p011").simulate(Seeds.doing("l"), 1), 24000);
        due("256 places become 120", Camps.of("K128 e 6*p401 p161").simulate(Seeds.doing("l"), 1), 7096);
        due("what was struck ahead does not count", Camps.of("e 9*p011 l e p011").simulate(Seeds.doing("l"), 1), 1016);
        due("nothing at all", new TentCamp().simulate(Seeds.doing("l"), 1), 0);
        for (int n = 0; n <= 23; n++) {
            TentCamp camp = Camps.of("e " + n + "*p011");
            due("leaving " + n, camp.simulate(Seeds.doing("l"), 1), 1000 * n + (n == 0 ? 0 : n <= 16 ? 16 : 32));
        }
    }
}
