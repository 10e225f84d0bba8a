/** The sentences on fields, tents and pitching: the last that is allowed, the first that is not. */
public final class FieldsTest extends Due {
    private FieldsTest() { }

    public static void main(String[] args) {
        check = new Check("FieldsTest");
        calls512();
        valuesAtFirst();
        fieldNumbers();
        places256();
        places256Everywhere();
        placesOfSpares();
        tents24();
        tents24Everywhere();
        sizes();
        steps();
        usualSizes();
        lastUsualField();
        lowestPlace();
        toTheEnd();
        moreThanHalf();
        asItIsThen();
        smallestSpare();
        likeSpares();
        newField();
        notPossible();
        gaps();
        valuesStay();
        tent();
        tentFrame();
        field();
        fieldNumbersOf();
        place();
        spare();
        spareMany();
        pitch();
        fill();
        fillAll();
        sideBySide();
        notInUse();
        check.end();
    }

    private static void calls512() {
        sentence("An object is used for at most 512 calls after it has been made; what later calls answer is free.");
        TentCamp camp = Camps.of("e");
        for (int i = 0; i < 255; i++) {
            due("pitch", camp.pitch(1, 1), 0);
            due("jump", camp.jump(0), 1);
        }
        due("the 512th call", camp.about(10), 255);
        TentCamp back = new TentCamp();
        for (int v = 0; v < 498; v++) {
            back.set(1, v % 129);
        }
        for (int left = 13; left > 0; left--) {
            due("undo", back.undo(), left);
        }
        due("the 512th call", back.undo(), 0);
    }

    private static void valuesAtFirst() {
        sentence("A field is a row of places, numbered from 0, each with a value: 0 at first, 100 is poison.");
        TentCamp camp = Camps.of("e p081 p081 p401");
        for (int k = 0; k < 16; k++) {
            due("usual place " + k, camp.place(0, k), 0);
        }
        for (int k = 0; k < 40; k++) {
            due("big place " + k, camp.place(1, k), 0);
        }
        fails("behind the usual one", INDEX, () -> camp.place(0, 16));
        fails("behind the big one", INDEX, () -> camp.place(1, 40));
        fails("ahead of both", INDEX, () -> camp.place(0, -1));
        // What a field had that was given up does not come again.
        TentCamp again = Camps.of("K0 e 6*p401 p161 j0 6*p401 p161");
        due("fields", again.about(1), 7);
        for (int f = 0; f < 7; f++) {
            due("poison in the new field " + f, again.field(f, 4), 0);
        }
        due("the last of 256 places", again.place(6, 15), 0);
        TentCamp filled = Camps.of("P0 K0 e p401 f0099 p401 f0198 j0 p301 p401");
        due("value in a new field", filled.place(0, 29), 0);
        due("value in a new field", filled.place(1, 0), 0);
        due("value in a new field", filled.place(1, 39), 0);
    }

    private static void fieldNumbers() {
        sentence("Fields that are in use are numbered from 0 in the order in which they came; a field is usual or big.");
        TentCamp camp = Camps.of("p111 p011 p161 p131");
        int[] places = {11, 16, 16};
        int[] big = {1, 0, 1};
        due("the 13 fits on the usual one", camp.about(1), 3);
        for (int f = 0; f < 3; f++) {
            due("places of field " + f, camp.field(f, 0), places[f]);
            due("field " + f + " is big", camp.field(f, 1), big[f]);
        }
        fails("field 3", INDEX, () -> camp.field(3, 0));
        TentCamp back = Camps.of("p111 e p121 p131 l p141");
        due("a number is given again", back.tent(1, 0), 1);
        due("fields in use", back.about(1), 2);
        due("the new field 1", back.field(1, 0), 14);
    }

    private static void places256() {
        sentence("All fields together, spare ones too, have at most 256 places.");
        TentCamp big = Camps.of("5*p401 p161");
        due("216 and 40", big.where(40, 1), 2);
        due("216 and 40", big.pitch(40, 1), 6);
        due("256 places", big.about(5), 256);
        due("256 and more", big.where(1, 1), 3);
        fails("256 and more", STATE, () -> big.pitch(1, 1));
        TentCamp more = Camps.of("5*p401 p171");
        due("217 and 40", more.where(40, 1), 3);
        fails("217 and 40", STATE, () -> more.pitch(40, 1));
        due("217 and 39", more.where(39, 1), 2);
        due("217 and 39", more.pitch(39, 1), 6);
        due("256 places", more.about(9), 256);
        TentCamp usual = Camps.of("5*p401 p201 p201");
        due("240 and 16", usual.where(8, 1), 2);
        due("240 and 16", usual.pitch(8, 1), 7);
        due("256 places", usual.about(5), 256);
        due("on the last usual one", usual.pitch(8, 1), 8);
        fails("nothing is left", STATE, () -> usual.pitch(1, 1));
        TentCamp less = Camps.of("5*p401 p201 p211");
        due("241 and 16", less.where(8, 1), 3);
        fails("241 and 16", STATE, () -> less.pitch(8, 1));
        due("241 and 15", less.where(15, 1), 2);
        due("241 and 15", less.pitch(15, 1), 7);
        due("256 places", less.about(5), 256);
        for (int u = 8; u <= 64; u++) {
            TentCamp camp = Camps.of("U" + u);
            due("tents of 1 on fields of " + u, camp.more(1, 1), 256 / u * u);
            for (int n = u / 2 + 1; n <= 40; n++) {
                due("big fields of " + n, camp.more(n, 8), 256 / n);
            }
        }
    }

    private static void places256Everywhere() {
        sentence("All fields together, spare ones too, have at most 256 places.");
        String t216 = "T16032p401p401p401p401p401p161";
        String t217 = "T16032p401p401p401p401p401p171";
        due("text: 216 and 40", Camps.withText(t216 + "p401").load(), 0);
        due("text: 217 and 40", Camps.withText(t217 + "p401").load(), 1);
        due("text: 217 and 39", Camps.withText(t217 + "p391").load(), 0);
        due("text: it was left out", Camps.loaded(t217 + "p401").about(9), 217);
        due("script: 216 and 40", Camps.loaded(t216).runScript(1, 10401), NONE);
        due("script: 217 and 40", Camps.loaded(t217).runScript(1, 10401), 0);
        due("script: 217 and 39", Camps.loaded(t217).runScript(1, 10391), NONE);
        due("script: 216, 24 and 16", Camps.loaded(t216).runScript(2, 1024110161L), NONE);
        due("script: 216, 24 and 17", Camps.loaded(t216).runScript(2, 1024110171L), 1);
        TentCamp camp = Camps.of("6*p401");
        for (int n = 1; n <= 20; n++) {
            int want = n <= 8 ? 256 : n <= 16 ? 240 + n : 240;
            due("simulate: 240 and " + n, camp.simulate(Seeds.pitching(n, 1), 1), want);
        }
        due("bestSize: 256 with all", Camps.of("6*p401 p161").bestSize(), 8);
    }

    private static void placesOfSpares() {
        sentence("All fields together, spare ones too, have at most 256 places.");
        TentCamp camp = Camps.of("K128 e 12*p101 j0");
        due("120 are spare", camp.about(6), 120);
        Camps.go(camp, "3*p401");
        due("120 spare, 120 in use, 16 new", camp.where(16, 1), 2);
        due("17 new", camp.where(17, 1), 3);
        fails("17 new", STATE, () -> camp.pitch(17, 1));
        due("10 fits on a spare one", camp.where(10, 1), 1);
        due("16 new", camp.pitch(16, 1), 3);
        due("256 with the spare ones", camp.about(5) + camp.about(6), 256);
        due("greatest number so far", camp.about(9), 256);
        fails("11 new", STATE, () -> camp.pitch(11, 1));
        due("a spare one can be taken still", camp.pitch(10, 1), 4);
        due("11 of 10, and none new", camp.more(10, 1), 11);
        due("all of them at the end", camp.simulate(Seeds.doing("e"), 1), 256);
        camp.set(1, 119);
        due("all strike", camp.leave(), 5);
        due("the greatest ones went", camp.about(6), 110);
        due("there is room again", camp.where(40, 1), 2);
    }

    private static void tents24() {
        sentence("At most 24 tents stand, numbered from 0 in the order in which they were pitched.");
        TentCamp camp = new TentCamp();
        for (int t = 0; t < 24; t++) {
            due("pitch", camp.pitch(1, 1), t);
        }
        fails("the 25th", STATE, () -> camp.pitch(1, 1));
        due("24 stand", camp.about(0), 24);
        due("the last one", camp.tent(23, 2), 1);
        fails("tent 24", INDEX, () -> camp.tent(24, 2));
        camp.undo();
        due("the 24th again", camp.pitch(2, 1), 23);
        fails("the 25th again", STATE, () -> camp.pitch(2, 1));
        TentCamp frames = Camps.of("23*p011 e p011");
        fails("the 25th in a frame", STATE, () -> frames.pitch(1, 1));
        due("one is struck", frames.leave(), 1);
        due("so one more can stand", frames.pitch(3, 1), 23);
        due("its size", frames.tent(23, 2), 3);
        fails("and no further one", STATE, () -> frames.pitch(1, 1));
    }

    private static void tents24Everywhere() {
        sentence("At most 24 tents stand, numbered from 0 in the order in which they were pitched.");
        // A text has no room for a 24th p.
        String t23 = "T16032" + "p011".repeat(23);
        TentCamp camp = Camps.withText(t23);
        due("text: 23", camp.load(), 0);
        due("text: 23 again", camp.load(), 0);
        due("23 stand", camp.about(0), 23);
        due("script: the 24th", camp.runScript(1, 10011), NONE);
        due("script: the 25th", camp.runScript(2, 1001110011L), 1);
        due("script: fill the 24th", camp.runScript(2, 1001142399L), NONE);
        due("script: fill the 25th", camp.runScript(2, 1001142499L), 1);
        due("simulate: the 24th", camp.simulate(Seeds.pitching(17, 1), 1), 32 + 17);
        camp.pitch(1, 1);
        due("simulate: the 25th", camp.simulate(Seeds.pitching(17, 1), 1), 32);
        due("where does not count them", camp.where(17, 1), 2);
        due("more does not count them", camp.more(17, 1), (256 - 32) / 17);
        due("bestSize: 24 tents", camp.bestSize(), 8);
        TentCamp frames = Camps.of("23*p011 e p011");
        due("script: one struck, then the 24th and the 25th", frames.runScript(3, 200011001110011L), 2);
    }

    private static void sizes() {
        sentence("size: 1 to 40 - step: 1, 2, 4 or 8");
        sentence("Throws IllegalArgumentException if an argument is out of its range");
        sentence("its size is how many (1 to 40), its step 1, 2, 4 or 8: the number of its first place can be divided by that.");
        for (int n = 0; n <= 99; n++) {
            TentCamp camp = new TentCamp();
            int size = n;
            boolean allowed = n >= 1 && n <= 40;
            due("script: " + n, camp.runScript(1, 10001 + 10 * n), allowed ? NONE : 0);
            String text = "T16032p" + two(n) + "1";
            due("text: " + n, Camps.withText(text).errorPosition(), allowed ? NONE : n == 0 || n < 50 ? 8 : 7);
            if (allowed) {
                due("where " + n, camp.where(n, 1), 2);
                due("more " + n, camp.more(n, 1) > 0 ? 1 : 0, 1);
                due("pitch " + n, camp.pitch(n, 1), 0);
                due("size", camp.tent(0, 2), n);
                due("places of all tents", camp.about(4), n);
            } else {
                fails("where " + n, ARGUMENT, () -> camp.where(size, 1));
                fails("more " + n, ARGUMENT, () -> camp.more(size, 1));
                fails("pitch " + n, ARGUMENT, () -> camp.pitch(size, 1));
            }
        }
        failsBeyond("where", ARGUMENT, n -> new TentCamp().where(n, 1));
        failsBeyond("more", ARGUMENT, n -> new TentCamp().more(n, 1));
        failsBeyond("pitch", ARGUMENT, n -> new TentCamp().pitch(n, 1));
    }

    private static void steps() {
        sentence("its size is how many (1 to 40), its step 1, 2, 4 or 8: the number of its first place can be divided by that.");
        for (int s : new int[] {-8, -4, 0, 3, 5, 6, 7, 9, 10, 12, 15, 16, 17, 24, 32, 64, 128}) {
            fails("pitch step " + s, ARGUMENT, () -> new TentCamp().pitch(1, s));
            fails("where step " + s, ARGUMENT, () -> new TentCamp().where(1, s));
            fails("more step " + s, ARGUMENT, () -> new TentCamp().more(1, s));
        }
        failsBeyond("pitch step", ARGUMENT, s -> new TentCamp().pitch(1, s));
        failsBeyond("where step", ARGUMENT, s -> new TentCamp().where(1, s));
        failsBeyond("more step", ARGUMENT, s -> new TentCamp().more(1, s));
        for (int s = 0; s <= 9; s++) {
            boolean allowed = s == 1 || s == 2 || s == 4 || s == 8;
            due("script: step " + s, new TentCamp().runScript(1, 10010 + s), allowed ? NONE : 0);
            due("text: step " + s, Camps.withText("T16032p01" + s).errorPosition(), allowed ? NONE : 9);
        }
        for (int s : STEPS) {
            TentCamp camp = Camps.of("p011");
            due("pitch step " + s, camp.pitch(2, s), 1);
            due("step", camp.tent(1, 3), s);
            due("first place", camp.tent(1, 1), s);
        }
    }

    private static void usualSizes() {
        sentence("The usual size is from 8 to 64, at first 16.");
        due("at first", new TentCamp().about(11), 16);
        due("a usual field at first", Camps.of("p011").field(0, 0), 16);
        TentCamp camp = new TentCamp();
        for (int u : new int[] {-8, 0, 1, 6, 7, 65, 66, 128}) {
            fails("usual size " + u, ARGUMENT, () -> camp.set(0, u));
        }
        failsBeyond("usual size", ARGUMENT, u -> camp.set(0, u));
        int before = 16;
        for (int u = 8; u <= 64; u++) {
            due("set", camp.set(0, u), before);
            due("usual size", camp.about(11), u);
            due("a usual field", Camps.of("U" + u + " p011").field(0, 0), u);
            due("text", Camps.loaded("T" + two(u) + "032").about(11), u);
            due("a usual field of the text", Camps.loaded("T" + two(u) + "032p011").field(0, 0), u);
            before = u;
        }
        due("text 07", Camps.withText("T07032").errorPosition(), 2);
        due("text 65", Camps.withText("T65032").errorPosition(), 2);
    }

    private static void lastUsualField() {
        sentence("If there is a usual field in use: on the last one");
        TentCamp camp = Camps.of("p011 p161 p171");
        due("a usual one, and two big ones behind it", camp.about(1), 3);
        due("still the last usual one", camp.where(15, 1), 0);
        due("on it", camp.pitch(15, 1), 3);
        due("its field", camp.tent(3, 0), 0);
        due("full now", camp.field(0, 3), 0);
        // Field 0 has 7 places left, field 1 has 6.
        TentCamp two = Camps.of("p081 p011 p081 p021");
        due("two usual ones", two.about(1), 2);
        due("6 on the last one", two.where(6, 1), 0);
        due("7 on none, though field 0 has so many", two.where(7, 1), 2);
        due("7 on a third one", two.pitch(7, 1), 4);
        due("its field", two.tent(4, 0), 2);
        due("then the third one is the last", two.pitch(6, 1), 5);
        due("its field", two.tent(5, 0), 2);
        // A big field is not taken, though it has room.
        TentCamp big = Camps.of("K128 e p401 j0 p091");
        due("a big field of 40 with a tent of 9", big.field(0, 3), 31);
        due("no usual one is in use", big.where(1, 1), 2);
        due("so a new one", big.pitch(1, 1), 1);
        due("its field", big.tent(1, 0), 1);
        // After a striking an earlier one is the last again.
        TentCamp back = Camps.of("p081 e p081 p011 l");
        due("it is the last one again", back.where(8, 8), 0);
        due("on it", back.pitch(8, 8), 1);
        due("its field", back.tent(1, 0), 0);
        due("its place", back.tent(1, 1), 8);
    }

    private static void lowestPlace() {
        sentence("at the lowest place that can be divided by s and has no place of a tent at it or behind it");
        for (int s : STEPS) {
            for (int e = 1; e <= 32; e++) {
                TentCamp camp = Camps.of("U64 p" + two(e) + "1");
                due("pitch", camp.pitch(2, s), 1);
                due("first place behind " + e + " with the step " + s, camp.tent(1, 1), up(e, s));
                due("places behind it", camp.field(0, 3), 64 - up(e, s) - 2);
            }
        }
        // What is free ahead of a tent is not taken.
        TentCamp gap = Camps.of("p011 p018");
        due("behind the last one", gap.pitch(1, 1), 2);
        due("its place", gap.tent(2, 1), 9);
        // The places of struck tents are free again.
        TentCamp back = Camps.of("p031 e p018 p011 j0 p011");
        due("behind the tent that stands", back.tent(1, 1), 3);
        due("all struck: a new field", Camps.of("e p031 l p021").tent(0, 1), 0);
    }

    private static void toTheEnd() {
        sentence("if it fits there to the end of the field.");
        for (int e = 1; e <= 16; e++) {
            TentCamp camp = Camps.of(e <= 8 ? "p" + two(e) + "1" : "p081 p" + two(e - 8) + "1");
            due("end", camp.field(0, 3), 16 - e);
            for (int s : STEPS) {
                for (int n = 1; n <= 20; n++) {
                    boolean fits = up(e, s) + n <= 16;
                    due("where(" + n + ", " + s + ") behind " + e, camp.where(n, s), fits ? 0 : 2);
                }
            }
        }
        TentCamp camp = Camps.of("p031 p134");
        due("13 do not fit from 4 on", camp.tent(1, 0), 1);
        camp = Camps.of("p031 p124");
        due("12 do", camp.tent(1, 0), 0);
        due("up to the end", camp.field(0, 3), 0);
        due("simulate: 13 from 3 on", Camps.of("p031").simulate(Seeds.pitching(13, 1), 1), 16);
        due("simulate: 14 from 3 on", Camps.of("p031").simulate(Seeds.pitching(14, 1), 1), 30);
        due("simulate: 12 from 4 on", Camps.of("p031").simulate(Seeds.pitching(12, 4), 1), 16);
        due("simulate: 13 from 4 on", Camps.of("p031").simulate(Seeds.pitching(13, 4), 1), 29);
    }

    private static void moreThanHalf() {
        sentence("Otherwise a field comes into use: a big one, if n is more than half of the usual size (as it is then, rounded down), "
            + "or else a usual one.");
        for (int u = 8; u <= 64; u++) {
            for (int n = 1; n <= 40; n++) {
                String what = n + " with the usual size " + u;
                TentCamp camp = Camps.of("U" + u);
                boolean big = n > u / 2;
                due(what, camp.where(n, 8), 2);
                if (n <= 20) {
                    due(what + ", simulate", camp.simulate(Seeds.pitching(n, 1), 1), big ? n : u);
                }
                due(what, camp.pitch(n, 1), 0);
                due(what + ": big", camp.field(0, 1), big ? 1 : 0);
                due(what + ": places", camp.field(0, 0), big ? n : u);
            }
        }
        // Also where a spare one comes into use, whatever it was before.
        for (int n = 7; n <= 10; n++) {
            TentCamp big = Camps.of("K128 e p401 j0 p" + two(n) + "1");
            due(n + " on a spare one that was big", big.field(0, 1), n > 8 ? 1 : 0);
            TentCamp usual = Camps.of("K128 U64 e p011 j0 U16 p" + two(n) + "1");
            due(n + " on a spare one that was usual", usual.field(0, 1), n > 8 ? 1 : 0);
            due("its places", usual.field(0, 0), 64);
        }
    }

    private static void asItIsThen() {
        sentence("(as it is then, rounded down)");
        TentCamp camp = Camps.of("2*p081 U9 p051");
        due("5 of 9 are big", camp.field(1, 1), 1);
        due("places", camp.field(1, 0), 5);
        camp = Camps.of("2*p081 U10 p051");
        due("5 of 10 are not", camp.field(1, 1), 0);
        due("places", camp.field(1, 0), 10);
        due("field 0 stays", camp.field(0, 0), 16);
        camp = Camps.of("p091 U18");
        due("what was big stays big", camp.field(0, 1), 1);
        due("no usual one is in use", camp.where(1, 1), 2);
        camp = Camps.of("p081 U8");
        due("what was usual stays usual", camp.field(0, 1), 0);
        due("and takes a tent that would be big now", camp.where(8, 1), 0);
    }

    private static void smallestSpare() {
        sentence("It is the smallest spare one with n places or more");
        String[] orders = {"p101 p201 p301", "p101 p301 p201", "p201 p101 p301", "p201 p301 p101", "p301 p101 p201", "p301 p201 p101"};
        for (String order : orders) {
            for (int n = 1; n <= 40; n++) {
                TentCamp camp = Camps.of("K128 e " + order + " j0");
                int want = n <= 10 ? 10 : n <= 20 ? 20 : n <= 30 ? 30 : n;
                due("where " + n, camp.where(n, 1), n <= 30 ? 1 : 2);
                camp.pitch(n, 1);
                due("the field for " + n, camp.field(0, 0), want);
                due("it is spare no longer", camp.about(2), n <= 30 ? 2 : 3);
                due("places of the spare ones", camp.about(6), n <= 30 ? 60 - want : 60);
                due("places of all", camp.about(9), n <= 30 ? 60 : 60 + n);
            }
        }
        // One of 8 is the smallest usual field that there can be; 5 of a big one.
        TentCamp small = Camps.of("K128 U8 e p051 p011 j0");
        due("the smallest for 5", small.runScript(2, 1005180001L), NONE);
        Camps.go(small, "p051");
        due("5 places for 5", small.field(0, 0), 5);
        due("one of 8 is left for 8", small.where(8, 8), 1);
        due("but not for 9", small.where(9, 1), 2);
    }

    private static void likeSpares() {
        sentence("of several like ones that which became spare first; if there is none, a new one");
        // The last field became spare first: the order is 3, 2, 1.
        TentCamp camp = Camps.of("K128 P0 e p161 f0001 p161 f0102 p161 f0203 j0");
        Camps.go(camp, "p161");
        due("the first of like ones", camp.place(0, 0), 3);
        // Now 3 becomes spare again, behind 2 and 1.
        Camps.go(camp, "j0 p161 p161 p161");
        due("the first", camp.place(0, 0), 2);
        due("the second", camp.place(1, 0), 1);
        due("the third", camp.place(2, 0), 3);
        due("none is left", camp.where(16, 1), 2);
        // A smaller one is taken first, though it became spare last.
        TentCamp other = Camps.of("K128 P0 e p161 f0001 p171 f0102 p171 f0203 j0 p151 p171 p171");
        due("the smallest", other.place(0, 0), 1);
        due("of the like ones the first", other.place(1, 0), 3);
        due("then the last", other.place(2, 0), 2);
    }

    private static void newField() {
        sentence("if there is none, a new one, with n places if it is big, otherwise with the usual size. The tent is pitched at its place 0.");
        for (int s : STEPS) {
            TentCamp camp = Camps.of("p01" + s + " p16" + s);
            due("usual: place", camp.tent(0, 1), 0);
            due("usual: places", camp.field(0, 0), 16);
            due("usual: left", camp.field(0, 3), 15);
            due("big: place", camp.tent(1, 1), 0);
            due("big: places", camp.field(1, 0), 16);
            due("big: left", camp.field(1, 3), 0);
            TentCamp spare = Camps.of("K128 e p101 j0 p11" + s + " p10" + s);
            due("no spare one of 11: a new one", spare.field(0, 0), 11);
            due("the spare one is taken for 10", spare.field(1, 0), 10);
            due("place on the spare one", spare.tent(1, 1), 0);
        }
    }

    private static void notPossible() {
        sentence("If a new one would be too much for the camp, this is not possible.");
        // A last usual field with 15 places left, a spare one of 20, 220 places behind them.
        TentCamp camp = Camps.of("K128 p011 e p201 j0 5*p401 p201");
        due("the 20 took the spare one", camp.about(6), 0);
        due("236 places", camp.about(9), 236);
        due("20 new", camp.where(20, 1), 2);
        due("21 new", camp.where(21, 1), 3);
        due("15 on the last usual one", camp.where(15, 1), 0);
        due("20 new", camp.pitch(20, 1), 7);
        for (int n = 1; n <= 40; n++) {
            int size = n;
            due("where " + n, camp.where(n, 1), n <= 15 ? 0 : 3);
            due("more of " + n, camp.more(n, 1), n <= 15 ? 15 / n : 0);
            if (n > 15) {
                fails("pitch " + n, STATE, () -> camp.pitch(size, 1));
            }
        }
        due("the last places", camp.pitch(15, 1), 8);
        due("none is left", camp.more(1, 1), 0);
    }

    private static void gapsDue(String calls, int want) {
        due("gaps of " + calls, Camps.of(calls).about(7), want);
    }

    private static void gaps() {
        sentence("Places of a usual field ahead of its last tent, or behind it if a later usual field is in use, on which no tent lies, are gaps.");
        gapsDue("", 0);
        gapsDue("p011", 0);
        gapsDue("p081 p081", 0);
        gapsDue("p011 p018", 7);
        gapsDue("p011 p014", 3);
        gapsDue("p011 p012", 1);
        gapsDue("p011 p011", 0);
        gapsDue("p011 p012 p018", 1 + 5);
        // Behind the last tent of field 0 lie 15, 1 or none.
        gapsDue("p011 p081 p081", 7);
        gapsDue("p081 p071 p021", 1);
        gapsDue("p081 p081 p021", 0);
        // A big field behind it makes no gaps, a usual one behind the big one does.
        gapsDue("p021 p151", 0);
        gapsDue("p021 p151 p081", 0);
        gapsDue("p021 p151 p081 p081", 6);
        gapsDue("p021 p151 p018", 6);
        gapsDue("p021 e p151 p081 p081 j0", 0);
        gapsDue("p018 e p012 p151 p081 p081 j0", 0);
        // A big field that is greater than its tent has none; a spare one has none.
        gapsDue("K128 e p401 j0 p091", 0);
        gapsDue("K128 e p401 j0 p091 p011 p081 p081", 7);
        gapsDue("K128 e p011 p018 p081 j0", 0);
        // A spare one that came into use as a usual one.
        gapsDue("K128 e p401 j0 p011 p018", 7);
        gapsDue("K128 e p401 p201 j0 p081 p201 p081 p081 p081", 4);
        TentCamp camp = Camps.of("p011 p081 p018");
        due("the last usual one has 7 ahead of a tent", camp.about(7), 7);
        due("script: at most 7", camp.runScript(1, 60007), NONE);
        due("script: at most 6", camp.runScript(1, 60006), 0);
    }

    private static void valuesStay() {
        sentence("When a tent is pitched, its places keep their values.");
        TentCamp camp = Camps.of("e p041 j0 p021");
        due("poison on a spare one", camp.place(0, 1), 100);
        due("poison behind it", camp.place(0, 3), 100);
        due("none behind that", camp.place(0, 4), 0);
        due("poison of the field", camp.field(0, 4), 4);
        due("fill finds it", camp.fill(0, 7), 2);
        TentCamp last = Camps.of("p011 e p038 f0155 l p061");
        due("on the last usual field", last.field(0, 4), 3);
        due("its places keep 0", last.place(0, 6), 0);
        TentCamp calm = Camps.of("P0 p011 e p038 f0155 l p108");
        due("another value", calm.place(0, 8), 55);
        due("the last place with it", calm.place(0, 10), 55);
        due("behind it", calm.place(0, 11), 0);
    }

    private static void tent() {
        sentence("0: its field; 1: its first place; 2: its size; 3: its step; 4: the last frame that was entered when it was pitched");
        sentence("Throws IndexOutOfBoundsException if there is no such tent");
        for (int n = 0; n <= 24; n++) {
            TentCamp camp = Camps.of(n + "*p011");
            fails("tent -1 of " + n, INDEX, () -> camp.tent(-1, 0));
            for (int t = 0; t < n; t++) {
                due("field of tent " + t, camp.tent(t, 0), t / 16);
                due("place of tent " + t, camp.tent(t, 1), t % 16);
            }
            int none = n;
            fails("tent " + n + " of " + n, INDEX, () -> camp.tent(none, 0));
            fails("tent " + n + ": the index counts first", INDEX, () -> camp.tent(none, 5));
        }
        TentCamp camp = Camps.of("p031 p058 p401");
        int[][] wants = {{0, 0, 3, 1, NONE}, {0, 8, 5, 8, NONE}, {1, 0, 40, 1, NONE}};
        for (int t = 0; t < 3; t++) {
            for (int what = 0; what <= 4; what++) {
                due("tent(" + t + ", " + what + ")", camp.tent(t, what), wants[t][what]);
            }
        }
        sentence("Throws IllegalArgumentException if what is not 0 to 4");
        range("what", 0, 4, ARGUMENT, what -> camp.tent(2, what));
        range("t", 0, 2, INDEX, t -> camp.tent(t, 4));
        fails("the index counts first", INDEX, () -> camp.tent(3, -1));
        fails("the index counts first", INDEX, () -> camp.tent(-1, 5));
    }

    private static void tentFrame() {
        sentence("the last frame that was entered when it was pitched, of those that are there, NONE without one");
        TentCamp camp = Camps.of("p011 e p011 e p011 e p011 e p011 e p011 e p011 e p011 e p011 p011");
        for (int t = 0; t < 9; t++) {
            due("frame of tent " + t, camp.tent(t, 4), t - 1);
        }
        due("frame of the last tent", camp.tent(9, 4), 7);
        Camps.go(camp, "j3 p011");
        due("the last one ahead of what was struck", camp.tent(3, 4), 2);
        due("pitched behind the jump", camp.tent(4, 4), 3);
        Camps.go(camp, "l l p011");
        due("two frames were left", camp.tent(3, 4), 1);
        Camps.go(camp, "e e");
        due("frames that were entered later", camp.tent(3, 4), 1);
        Camps.go(camp, "p011");
        due("of two the last one", camp.tent(4, 4), 3);
        Camps.go(camp, "l l");
        due("the same frames, entered anew", Camps.go(camp, "e p011"), 4);
        due("the frame then", camp.tent(4, 4), 2);
        Camps.go(camp, "j0 l");
        due("no frame is left", camp.tent(0, 4), NONE);
        due("no frame is left", camp.tent(Camps.go(camp, "p011"), 4), NONE);
        due("a frame ahead of all", Camps.of("e p011").tent(0, 4), 0);
    }

    private static void field() {
        sentence("Throws IndexOutOfBoundsException if there is no such field");
        for (int n = 0; n <= 24; n++) {
            TentCamp camp = Camps.of("U8 " + n + "*p051");
            int none = n;
            fails("field -1 of " + n, INDEX, () -> camp.field(-1, 0));
            fails("field " + n + " of " + n, INDEX, () -> camp.field(none, 0));
            fails("place of field " + n, INDEX, () -> camp.place(none, 0));
            for (int f = 0; f < n; f++) {
                due("places of field " + f, camp.field(f, 0), 5);
            }
            due("fields in use", camp.about(1), n);
        }
        TentCamp camp = Camps.of("K128 p011 e p401 l p171");
        range("f", 0, 1, INDEX, f -> camp.field(f, 0));
        sentence("Throws IllegalArgumentException if what is not 0 to 4");
        range("what", 0, 4, ARGUMENT, what -> camp.field(1, what));
        fails("the index counts first", INDEX, () -> camp.field(2, 5));
        fails("the index counts first", INDEX, () -> camp.field(-1, -1));
    }

    private static void fieldNumbersOf() {
        sentence("0: the number of its places; 1: 1 if it is big, otherwise 0; 2: the number of tents on it; 3: the places that lie on it "
            + "behind its last tent; 4: its places with poison");
        TentCamp camp = Camps.of("U64");
        for (int n = 1; n <= 24; n++) {
            Camps.go(camp, "p012");
            due("tents on field 0", camp.field(0, 2), n);
            due("places behind " + n, camp.field(0, 3), 64 - (2 * n - 1));
        }
        camp = Camps.of("U64 p321 p311");
        due("one place is left", camp.field(0, 3), 1);
        Camps.go(camp, "p011");
        due("none is left", camp.field(0, 3), 0);
        for (int n = 1; n <= 32; n++) {
            camp = Camps.of("K64 U64 e p321 p" + two(n) + "1 l p011");
            due("poison on a field", camp.field(0, 4), 32 + n);
            due("tents on it", camp.field(0, 2), 1);
            due("places behind its tent", camp.field(0, 3), 63);
            due("it is usual", camp.field(0, 1), 0);
            due("the next to the last poison", camp.place(0, 32 + n - 1), 100);
            camp.fill(0, 99);
            due("99 is no poison", camp.field(0, 4), 32 + n - 1);
        }
        camp = Camps.of("p081 p081 p021 p401");
        int[][] wants = {{16, 0, 2, 0, 0}, {16, 0, 1, 14, 0}, {40, 1, 1, 0, 0}};
        for (int f = 0; f < 3; f++) {
            for (int what = 0; what <= 4; what++) {
                due("field(" + f + ", " + what + ")", camp.field(f, what), wants[f][what]);
            }
        }
    }

    private static void sideBySide() {
        sentence("A tent lies on some places of one field side by side");
        for (int n = 1; n <= 40; n++) {
            TentCamp camp = Camps.of("p018 p" + two(n) + "8 f0150 p018 p211");
            int f = camp.tent(1, 0);
            int first = camp.tent(1, 1);
            for (int g = 0; g < camp.about(1); g++) {
                for (int k = 0; k < camp.field(g, 0); k++) {
                    int want = g == f && k >= first && k < first + n ? 50 : 0;
                    due("value of place " + k + " of field " + g, camp.place(g, k), want);
                }
            }
        }
    }

    private static void notInUse() {
        sentence("Fields that are not in use are spare ones.");
        for (int n = 0; n <= 12; n++) {
            TentCamp camp = Camps.of("K128 e 12*p101 j0 " + n + "*p091");
            due("in use", camp.about(1), n);
            due("spare", camp.about(2), 12 - n);
            due("places in use", camp.about(5), 10 * n);
            due("spare places", camp.about(6), 120 - 10 * n);
            due("the last spare one", camp.spare(11 - n < 0 ? 0 : 11 - n), n == 12 ? NONE : 10);
            due("none behind it", camp.spare(12 - n), NONE);
        }
    }

    private static void place() {
        sentence("Returns its value.");
        sentence("Throws IndexOutOfBoundsException if there is no such field or place");
        int[] usuals = {8, 9, 16, 63, 64};
        for (int u : usuals) {
            TentCamp camp = Camps.of("U" + u + " p011");
            range("place of " + u, 0, u - 1, INDEX, k -> camp.place(0, k));
            range("field", 0, 0, INDEX, f -> camp.place(f, 0));
        }
        for (int n = 9; n <= 40; n++) {
            TentCamp camp = Camps.of("p" + two(n) + "1 p401");
            int last = n - 1;
            camp.fill(0, 7);
            due("the last place of " + n, camp.place(0, last), 7);
            fails("behind it", INDEX, () -> camp.place(0, last + 1));
            fails("no such field", INDEX, () -> camp.place(2, 0));
        }
        // The places of the tent are fewer than those of its field.
        TentCamp camp = Camps.of("K128 e p401 j0 p091");
        range("place of a greater field", 0, 39, INDEX, k -> camp.place(0, k));
        due("with poison up to its end", camp.field(0, 4), 40);
        camp.leave();
        fails("a spare field is not in use", INDEX, () -> camp.place(0, 0));
    }

    private static void spare() {
        sentence("which one, from 0, the smallest ones first, of several like ones that which became spare first");
        sentence("Returns the number of its places; NONE if there are not so many.");
        sentence("Throws IllegalArgumentException if i is negative");
        TentCamp none = new TentCamp();
        due("none", none.spare(0), NONE);
        TentCamp camp = Camps.of("K128 e p301 p101 p201 p101 p301 j0");
        int[] wants = {10, 10, 20, 30, 30};
        for (int i = 0; i < wants.length; i++) {
            due("spare(" + i + ")", camp.spare(i), wants[i]);
        }
        due("not so many", camp.spare(5), NONE);
        for (int i : TOO_SMALL) {
            fails("spare " + i, ARGUMENT, () -> camp.spare(i));
            fails("spare " + i + " of none", ARGUMENT, () -> none.spare(i));
        }
        for (int i : TOO_GREAT) {
            due("spare " + i, camp.spare(i), NONE);
        }
        Camps.go(camp, "p151");
        due("one of 20 is in use", camp.spare(2), 30);
        due("four are left", camp.spare(4), NONE);
    }

    private static void spareMany() {
        sentence("Returns the number of its places; NONE if there are not so many.");
        // 128 places in fields of 5 and one of 8 are as many spare fields as there can be.
        TentCamp camp = Camps.of("K128 U8 e 24*p051 j0 p081 j0");
        due("spare fields", camp.about(2), 25);
        due("their places", camp.about(6), 128);
        for (int i = 0; i < 24; i++) {
            due("spare(" + i + ")", camp.spare(i), 5);
        }
        due("the greatest", camp.spare(24), 8);
        due("not so many", camp.spare(25), NONE);
        due("25 spare ones and 25 new ones", camp.more(5, 1), 25 + 25);
        Camps.go(camp, "12*p101");
        due("with 12 big ones in use", camp.about(1), 12);
        due("25 spare ones still", camp.spare(24), 8);
        due("248 places", camp.about(9), 248);
        Camps.go(camp, "12*p051");
        due("24 fields in use", camp.about(1), 24);
        due("13 spare ones", camp.about(2), 13);
        due("the 13th", camp.spare(12), 8);
        due("no 14th", camp.spare(13), NONE);
    }

    private static void pitch() {
        sentence("Throws IllegalStateException if it is not possible, or 24 tents stand");
        TentCamp brim = Camps.of("6*p401 p161");
        fails("no place", STATE, () -> brim.pitch(1, 1));
        fails("the argument counts first", ARGUMENT, () -> brim.pitch(0, 1));
        fails("the argument counts first", ARGUMENT, () -> brim.pitch(41, 1));
        fails("the argument counts first", ARGUMENT, () -> brim.pitch(1, 0));
        fails("the argument counts first", ARGUMENT, () -> brim.pitch(1, 16));
        TentCamp many = Camps.of("24*p011");
        fails("24 stand", STATE, () -> many.pitch(1, 1));
        fails("the argument counts first", ARGUMENT, () -> many.pitch(0, 1));
        fails("the argument counts first", ARGUMENT, () -> many.pitch(41, 8));
        fails("the argument counts first", ARGUMENT, () -> many.pitch(40, 3));
        // 256 places and 24 tents, both at once.
        TentCamp both = Camps.of("22*p101 p361");
        due("256 places", both.about(9), 256);
        due("nothing is left", both.where(1, 1), 3);
        fails("23 tents, no place", STATE, () -> both.pitch(1, 1));
        TentCamp last = Camps.of("22*p101 p201 p081");
        due("256 places", last.about(9), 256);
        due("8 are left", last.where(8, 1), 0);
        fails("24 tents, 8 places", STATE, () -> last.pitch(8, 1));
    }

    private static void fill() {
        sentence("Throws IllegalArgumentException if v is out of range");
        TentCamp camp = Camps.of("p031 p048 p401");
        range("v", 0, 99, ARGUMENT, v -> camp.fill(1, v));
        range("t", 0, 2, INDEX, t -> camp.fill(t, 5));
        fails("100 is poison", ARGUMENT, () -> camp.fill(0, 100));
        fails("the index counts first", INDEX, () -> camp.fill(3, 100));
        fails("the index counts first", INDEX, () -> camp.fill(-1, -1));
        fails("no tent", INDEX, () -> new TentCamp().fill(0, 0));
        for (int v = 0; v <= 99; v++) {
            TentCamp one = Camps.of("p021");
            due("fill", one.fill(0, v), 0);
            due("its value", one.place(0, 1), v);
        }
    }

    private static void fillAll() {
        sentence("Gives all places of a tent a value.");
        sentence("Returns how many of them had poison.");
        for (int n = 1; n <= 40; n++) {
            String p = "p" + two(n) + "1";
            TentCamp all = Camps.of("K64 U64 p011 e p401 l " + p);
            due("all have poison", all.fill(1, 99), n);
            due("none has it", all.fill(1, 0), 0);
            due("ahead of its first place", all.place(0, 0), 0);
            due("its first place", all.place(0, 1), 0);
            due("its last place", all.place(0, n), 0);
            if (n < 40) {
                due("behind its last place", all.place(0, n + 1), 100);
            }
            due("what is left", all.field(0, 4), 40 - n);
        }
        TentCamp part = Camps.of("p011 e p068 l p084");
        due("4 of 8 have poison", part.fill(1, 3), 4);
        due("2 have it still", part.field(0, 4), 2);
        due("a full one", Camps.of("24*p011").fill(23, 99), 0);
        TentCamp zero = Camps.of("p161");
        due("0", zero.fill(0, 0), 0);
        due("the values stay 0", zero.place(0, 15), 0);
        due("99", zero.fill(0, 99), 0);
        due("99 at the last place", zero.place(0, 15), 99);
    }
}
