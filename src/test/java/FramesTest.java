/** The sentences on frames, jumps, striking and spare fields: the last that is allowed, the first that is not. */
public final class FramesTest extends Due {
    private FramesTest() { }

    public static void main(String[] args) {
        check = new Check("FramesTest");
        frames8();
        frames8Everywhere();
        framesKnow();
        frame();
        placesBehind();
        struckTents();
        poisonOrNot();
        lastFieldFirst();
        keeps();
        keepsUpToTheLast();
        greatestFirst();
        likeOnesGivenUp();
        valuesOfWhatStays();
        enter();
        leave();
        jump();
        jumpNowhere();
        strikingNothing();
        check.end();
    }

    private static void frames8() {
        sentence("There are at most 8 frames, numbered from 0, one within the other.");
        TentCamp camp = new TentCamp();
        for (int i = 0; i < 8; i++) {
            due("frames", camp.about(3), i);
            due("enter", camp.enter(), i);
        }
        fails("a ninth", STATE, () -> camp.enter());
        due("8 frames", camp.about(3), 8);
        due("the last one", camp.frame(7, 0), 0);
        fails("frame 8", INDEX, () -> camp.frame(8, 0));
        camp.leave();
        fails("frame 7 is gone", INDEX, () -> camp.frame(7, 0));
        due("an eighth again", camp.enter(), 7);
        fails("a ninth again", STATE, () -> camp.enter());
        due("jump to the last one", camp.jump(7), 0);
        fails("it stays", STATE, () -> camp.enter());
        due("jump to the one ahead", camp.jump(6), 0);
        due("an eighth again", camp.enter(), 7);
    }

    private static void frames8Everywhere() {
        sentence("There are at most 8 frames, numbered from 0, one within the other.");
        due("text: 8", Camps.withText("T16032eeeeeeee").load(), 0);
        due("text: 9", Camps.withText("T16032eeeeeeeee").load(), 1);
        due("text: 8 of 94", Camps.withText("T16032" + "e".repeat(94)).load(), 86);
        due("text: jump to the eighth", Camps.withText("T16032eeeeeeeej7").load(), 0);
        due("text: jump to the eighth of 7", Camps.withText("T16032eeeeeeej7").load(), 1);
        TentCamp seven = Camps.of("7*e");
        due("script: the eighth", seven.runScript(1, 20000), NONE);
        due("script: the ninth", seven.runScript(2, 2000020000L), 1);
        due("script: jump to the eighth", seven.runScript(2, 2000030007L), NONE);
        due("script: no eighth", seven.runScript(1, 30007), 0);
        due("script: no ninth", seven.runScript(2, 2000030008L), 1);
        // One tent ahead of the eighth frame, one behind it: a ninth frame would have none behind it.
        TentCamp full = Camps.of("7*e p011 e p011");
        due("simulate: no ninth", full.simulate(Seeds.doing("el"), 2) / 1000, 1);
        TentCamp one = Camps.of("6*e p011 e p011");
        due("simulate: an eighth", one.simulate(Seeds.doing("el"), 2) / 1000, 0);
        due("simulate: an eighth, then the seventh", one.simulate(Seeds.doing("ell"), 3) / 1000, 1);
    }

    private static void framesKnow() {
        sentence("0: how many tents stood when it was entered; 1: how many fields were in use then");
        sentence("A frame knows how many tents stood, and how many fields were in use, when it was entered.");
        for (int n = 0; n <= 24; n++) {
            TentCamp camp = Camps.of("U8 " + n + "*p051 e");
            due("tents", camp.frame(0, 0), n);
            due("fields", camp.frame(0, 1), n);
            due("places behind it", camp.frame(0, 2), 0);
            due("nothing is behind it", camp.jump(0), 0);
            due("all stay", camp.about(0), n);
            due("all fields stay", camp.about(1), n);
        }
        TentCamp camp = Camps.of("p081 p011 e p071 p081 p401 e U8 p041");
        due("tents of frame 0", camp.frame(0, 0), 2);
        due("fields of frame 0", camp.frame(0, 1), 1);
        due("tents of frame 1", camp.frame(1, 0), 5);
        due("fields of frame 1", camp.frame(1, 1), 3);
        due("a tent on the field that was last", camp.tent(5, 0), 1);
        due("places behind frame 0", camp.frame(0, 2), 7 + 8 + 40 + 4);
        due("places behind frame 1", camp.frame(1, 2), 4);
    }

    private static void frame() {
        sentence("Throws IndexOutOfBoundsException if there is no such frame");
        sentence("Throws IllegalArgumentException if what is not 0 to 2");
        for (int n = 1; n <= 8; n++) {
            TentCamp camp = Camps.of(n + "*e");
            range("frame", 0, n - 1, INDEX, i -> camp.frame(i, 0));
            int none = n;
            fails("the index counts first", INDEX, () -> camp.frame(none, 3));
            fails("the index counts first", INDEX, () -> camp.frame(-1, -1));
        }
        TentCamp camp = Camps.of("e e");
        range("what", 0, 2, ARGUMENT, what -> camp.frame(1, what));
        TentCamp none = new TentCamp();
        fails("no frames", INDEX, () -> none.frame(0, 0));
        fails("no frames: the index counts first", INDEX, () -> none.frame(0, 3));
        camp.jump(0);
        fails("a frame that is gone", INDEX, () -> camp.frame(1, 0));
    }

    private static void placesBehind() {
        sentence("2: how many places of tents lie behind it");
        TentCamp camp = Camps.of("p031 e e p058 p401 e");
        due("behind the first", camp.frame(0, 2), 45);
        due("behind the second", camp.frame(1, 2), 45);
        due("behind the last", camp.frame(2, 2), 0);
        Camps.go(camp, "p011");
        due("behind the last", camp.frame(2, 2), 1);
        due("behind the first", camp.frame(0, 2), 46);
        due("the most", Camps.of("e 6*p401 p161").frame(0, 2), 256);
    }

    private static void struckTents() {
        sentence("all tents behind those that stood then are struck");
        for (int stood = 0; stood <= 24; stood++) {
            for (int n : new int[] {0, 1, 24 - stood}) {
                if (n > 24 - stood) {
                    continue;
                }
                TentCamp camp = Camps.of(stood + "*p011 e " + n + "*p012");
                due("struck by the jump", camp.runScript(2, 3000090000L + stood + 1), 1);
                due("standing behind the jump", camp.runScript(2, 3000090000L + stood), NONE);
                due("struck", camp.leave(), n);
                due("standing", camp.about(0), stood);
                due("struck so far", camp.about(10), n);
                due("places of tents", camp.about(4), stood);
            }
        }
    }

    private static void poisonOrNot() {
        sentence("if the camp is poisoned (at first it is), each place of a struck tent gets the value 100, otherwise values stay");
        due("at first", new TentCamp().about(13), 1);
        for (int poisoned = 0; poisoned <= 1; poisoned++) {
            TentCamp camp = Camps.of("P" + poisoned + " p031 f0011 e p024 f0122 p038 f0233 j0");
            int[] wants = {11, 11, 11, 0, 22, 22, 0, 0, 33, 33, 33, 0, 0, 0, 0, 0};
            for (int k = 0; k < 16; k++) {
                int want = poisoned == 1 && wants[k] > 11 ? 100 : wants[k];
                due("place " + k + ", poisoned " + poisoned, camp.place(0, k), want);
            }
            due("poison on the field", camp.field(0, 4), 5 * poisoned);
        }
        TentCamp left = Camps.of("K64 e p401 f0007 l p401");
        due("leaving: the first place", left.place(0, 0), 100);
        due("leaving: the last place", left.place(0, 39), 100);
        TentCamp calm = Camps.of("K64 P0 e p401 f0007 l p401");
        due("leaving without poison: the first place", calm.place(0, 0), 7);
        due("leaving without poison: the last place", calm.place(0, 39), 7);
        // It matters what it is when the tent is struck, not when it was pitched.
        TentCamp later = Camps.of("p011 e P0 p031 P1 j0");
        due("poisoned then", later.field(0, 4), 3);
        later = Camps.of("p011 e P1 p031 P0 j0 P1");
        due("not poisoned then", later.field(0, 4), 0);
        due("text: x", Camps.loaded("T16032xp011ep031l").field(0, 4), 0);
        due("text: x twice", Camps.loaded("T16032xxp011ep031l").field(0, 4), 3);
        due("text: about(13) after x", Camps.loaded("T16032x").about(13), 0);
        due("text: about(13) after x x", Camps.loaded("T16032xx").about(13), 1);
        // What was poison stays it where the camp is not poisoned.
        due("old poison", Camps.of("p011 e p031 j0 P0 p011 j0").field(0, 4), 3);
    }

    private static void lastFieldFirst() {
        sentence("all fields behind those that were in use then become spare, the last one first.");
        TentCamp camp = Camps.of("K128 P0 p011 e p161 f0101 p161 f0202 e p161 f0303 p161 f0404 l");
        due("in use", camp.about(1), 3);
        due("spare", camp.about(2), 2);
        Camps.go(camp, "p161 p161");
        due("the last became spare first", camp.place(3, 0), 4);
        due("then the one ahead of it", camp.place(4, 0), 3);
        Camps.go(camp, "j0");
        due("in use", camp.about(1), 1);
        due("spare", camp.about(2), 4);
        Camps.go(camp, "4*p161");
        int[] wants = {3, 4, 2, 1};
        for (int f = 0; f < 4; f++) {
            due("value of field " + (f + 1), camp.place(f + 1, 15), wants[f]);
        }
        // A field stays in use if its first tent stood then, also if a tent behind is struck.
        TentCamp stays = Camps.of("p011 e p078 j0");
        due("it is in use", stays.about(1), 1);
        due("none is spare", stays.about(2), 0);
        due("its tents", stays.field(0, 2), 1);
        due("all the same with 24 fields", Camps.of("K128 U8 e 24*p051 j0").about(2), 24);
    }

    private static void keeps() {
        sentence("Then, as long as the spare fields together have more places than the camp keeps (0 to 128, at first 32)");
        due("at first", new TentCamp().about(12), 32);
        TentCamp first = Camps.of("e p161 p161 l");
        due("32 are not more than 32", first.about(6), 32);
        TentCamp more = Camps.of("e p161 p171 l");
        due("33 are more: 17 goes", more.about(6), 16);
        TentCamp camp = new TentCamp();
        range("keeps", 0, 128, ARGUMENT, v -> camp.set(1, v));
        TentCamp answers = new TentCamp();
        int before = 32;
        for (int keeps = 0; keeps <= 128; keeps++) {
            due("set", answers.set(1, keeps), before);
            due("keeps", answers.about(12), keeps);
            due("text", Camps.loaded("T16" + three(keeps)).about(12), keeps);
            before = keeps;
        }
        due("text: 129", Camps.withText("T16129").errorPosition(), 5);
        due("0: all go", Camps.of("K0 e p161 p091 l").about(6), 0);
        due("0: none is left", Camps.of("K0 e p161 p091 l").about(2), 0);
        due("0: not the ones in use", Camps.of("K0 p091 e p161 p011 l").about(5), 9);
        due("text: 000", Camps.loaded("T16000ep161l").about(2), 0);
        due("text: 015", Camps.loaded("T16015ep161l").about(2), 0);
        due("text: 016", Camps.loaded("T16016ep161l").about(2), 1);
    }

    /** Calls that pitch so many places of big fields, 5 or more, with the usual size 8; the greatest has 40 or all. */
    private static String bigFields(int places) {
        StringBuilder calls = new StringBuilder();
        int rest = places;
        while (rest > 45) {
            calls.append(" p401");
            rest -= 40;
        }
        if (rest > 40) {
            calls.append(" p").append(two(rest - 5)).append('1');
            rest = 5;
        }
        return calls.append(" p").append(two(rest)).append('1').toString();
    }

    private static void keepsUpToTheLast() {
        sentence("as long as the spare fields together have more places than the camp keeps (0 to 128, at first 32), the greatest of them");
        for (int places = 5; places <= 129; places++) {
            String pitches = bigFields(places);
            int greatest = places > 45 ? 40 : places > 40 ? places - 5 : places;
            if (places <= 128) {
                TentCamp stay = Camps.of("U8 K" + places + " e" + pitches + " j0");
                due(places + " stay", stay.about(6), places);
                due("none is given up", stay.about(5), 0);
            }
            TentCamp camp = Camps.of("U8 K" + (places - 1) + " e" + pitches);
            due("jump would give up", camp.givenUp(0), greatest);
            due("struck", camp.jump(0), pitches.length() / 5);
            due(places + " are too many", camp.about(6), places - greatest);
            due("greatest number so far", camp.about(9), places);
        }
    }

    private static void greatestFirst() {
        sentence("the greatest of them, of several the one that became spare last, is given up.");
        TentCamp camp = Camps.of("K50 e p101 p301 p201 j0");
        due("the 30 goes, though 10 would be enough", camp.about(6), 30);
        due("10 stays", camp.spare(0), 10);
        due("20 stays", camp.spare(1), 20);
        camp = Camps.of("K29 e p101 p301 p201 j0");
        due("30 and 20 go", camp.about(6), 10);
        due("one is left", camp.about(2), 1);
        camp = Camps.of("K30 e p101 p301 p201 j0");
        due("only 30 goes", camp.about(2), 2);
        camp = Camps.of("K9 e p101 p301 p201 j0");
        due("all go", camp.about(2), 0);
        due("no places", camp.about(6), 0);
        camp = Camps.of("K60 e p101 p301 p201 j0");
        due("all stay", camp.about(2), 3);
        // Also one that was spare for long, if it is the greatest.
        camp = Camps.of("K60 e p401 e p091 e l l l");
        due("49 are spare", camp.about(6), 49);
        Camps.go(camp, "K48 e l");
        due("the 40 goes", camp.about(6), 9);
        // The setting alone gives up nothing: it is looked at with the next striking.
        camp = Camps.of("e p161 p161 j0 K0");
        due("32 still", camp.about(6), 32);
        Camps.go(camp, "p011");
        due("one of 16 still", camp.about(6), 16);
        Camps.go(camp, "e j1");
        due("a striking gives up", camp.about(6), 0);
    }

    private static void likeOnesGivenUp() {
        sentence("of several the one that became spare last, is given up.");
        // 3 became spare first, then 2, then 1.
        TentCamp camp = Camps.of("K128 P0 e p161 f0001 p161 f0102 p161 f0203 j0 K32 j0");
        due("one is given up", camp.about(2), 2);
        Camps.go(camp, "p161 p161");
        due("the first stays", camp.place(0, 0), 3);
        due("the second stays", camp.place(1, 0), 2);
        // They become spare again, 2 ahead of 3.
        Camps.go(camp, "j0 K31 j0 p161");
        due("the one that became spare first this time", camp.place(0, 0), 2);
        due("a new one", camp.where(16, 1), 2);
        // Two like ones, one greater one, of those in one striking.
        TentCamp other = Camps.of("K32 P0 e p161 f0001 p171 f0102 p161 f0203 j0 p161 p161");
        due("the greater one went, the last of the like ones is first", other.place(0, 0), 3);
        due("the first one behind it", other.place(1, 0), 1);
    }

    private static void valuesOfWhatStays() {
        sentence("of several the one that became spare last, is given up.");
        for (int gone = 0; gone < 4; gone++) {
            // Fields 0 and 5 stay in use, of the four between them the greatest goes.
            StringBuilder calls = new StringBuilder("K128 P0 p091 f0091 e");
            int places = 0;
            for (int i = 0; i < 4; i++) {
                int n = i == gone ? 30 : 20 + i;
                calls.append(" p").append(n).append("1 f0").append(i + 1).append(two(10 * i + 5));
                places += n;
            }
            TentCamp camp = Camps.of(calls + " j0 K" + (places - 1) + " p401 f0177 e l");
            due("the greatest went", camp.about(6), places - 30);
            due("value ahead of it", camp.place(0, 8), 91);
            due("value behind it", camp.place(1, 0), 77);
            due("last value behind it", camp.place(1, 39), 77);
            for (int i = 0; i < 4; i++) {
                if (i != gone) {
                    String p = "p" + (20 + i) + "1";
                    Camps.go(camp, p);
                    int f = camp.about(1) - 1;
                    due("places of what stays", camp.field(f, 0), 20 + i);
                    for (int k = 0; k < 20 + i; k++) {
                        due("value of what stays", camp.place(f, k), 10 * i + 5);
                    }
                }
            }
            due("nothing is spare", camp.about(2), 0);
            Camps.go(camp, "p301");
            due("a new one is clean", camp.place(5, 0) + camp.place(5, 29), 0);
        }
    }

    private static void enter() {
        sentence("Enters a frame. Returns its number.");
        sentence("Throws IllegalStateException if there are 8");
        TentCamp camp = Camps.of("7*e");
        due("the eighth", camp.enter(), 7);
        fails("the ninth", STATE, () -> camp.enter());
        TentCamp tents = Camps.of("24*p011 e");
        due("a frame behind 24 tents", tents.frame(0, 0), 24);
        due("another one", tents.enter(), 1);
    }

    private static void leave() {
        sentence("The last frame can be left: what lies behind it is struck, and it is gone.");
        sentence("Throws IllegalStateException if there is none");
        TentCamp none = new TentCamp();
        fails("none", STATE, () -> none.leave());
        TentCamp tents = Camps.of("p011");
        fails("a tent and no frame", STATE, () -> tents.leave());
        TentCamp camp = Camps.of("e p011 e 2*p011 e 3*p011 e e 4*p011");
        int[] struck = {4, 0, 3, 2, 1};
        for (int i = 0; i < 5; i++) {
            due("frames", camp.about(3), 5 - i);
            due("struck by leaving", camp.leave(), struck[i]);
        }
        due("none is left", camp.about(3), 0);
        due("no tent is left", camp.about(0), 0);
        fails("none is left", STATE, () -> camp.leave());
        due("struck in all", camp.about(10), 10);
        due("the most at once", Camps.of("e 24*p011").leave(), 24);
        due("text: without a frame", Camps.withText("T16032l").load(), 1);
        due("text: one frame", Camps.withText("T16032elll").load(), 2);
        due("script: without a frame", none.runScript(1, 20001), 0);
        due("script: one frame", none.runScript(3, 200002000120001L), 2);
    }

    private static void jump() {
        sentence("One can jump to a frame: what lies behind it is struck, all later frames are gone, and it stays.");
        for (int i = 0; i < 8; i++) {
            TentCamp camp = new TentCamp();
            for (int k = 0; k < 8; k++) {
                Camps.go(camp, "e p011 p012 p011");
            }
            int at = i;
            due("struck by a jump to " + i, camp.jump(i), 3 * (8 - i));
            due("tents", camp.about(0), 3 * i);
            due("frames", camp.about(3), i + 1);
            due("it stays", camp.frame(i, 0), 3 * i);
            fails("the next one is gone", INDEX, () -> camp.frame(at + 1, 0));
            fails("jump to it", INDEX, () -> camp.jump(at + 1));
            due("again", camp.jump(i), 0);
            due("frames", camp.about(3), i + 1);
        }
    }

    private static void jumpNowhere() {
        sentence("Throws IndexOutOfBoundsException if there is no such frame");
        for (int n = 1; n <= 8; n++) {
            TentCamp camp = Camps.of(n + "*e");
            for (int i : TOO_SMALL) {
                fails("jump " + i, INDEX, () -> camp.jump(i));
                fails("givenUp " + i, INDEX, () -> camp.givenUp(i));
            }
            for (int i : TOO_GREAT) {
                fails("jump " + i, INDEX, () -> camp.jump(i));
                fails("givenUp " + i, INDEX, () -> camp.givenUp(i));
            }
            int none = n;
            fails("jump " + n + " of " + n, INDEX, () -> camp.jump(none));
            fails("givenUp " + n + " of " + n, INDEX, () -> camp.givenUp(none));
            due("givenUp of the last one", camp.givenUp(n - 1), 0);
            due("jump to the last one", camp.jump(n - 1), 0);
        }
        fails("no frames", INDEX, () -> new TentCamp().jump(0));
        fails("no frames", INDEX, () -> new TentCamp().givenUp(0));
    }

    private static void strikingNothing() {
        sentence("Returns how many tents are struck.");
        TentCamp camp = Camps.of("p031 f0009 e");
        due("jump", camp.jump(0), 0);
        due("the tent stays", camp.place(0, 2), 9);
        due("leave", camp.leave(), 0);
        due("the tent stays", camp.place(0, 2), 9);
        due("none was struck", camp.about(10), 0);
        due("its field is in use", camp.about(1), 1);
    }
}
