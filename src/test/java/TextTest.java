/** The sentences on the text and on load: the last that is allowed, the first that is not. */
public final class TextTest extends Due {
    private static final String DIGITS = "0123456789";
    private static final String COMMANDS = "pejlfx";

    private TextTest() { }

    public static void main(String[] args) {
        check = new Check("TextTest");
        characters();
        length100();
        clearText();
        clearFull();
        firstWrongCharacter();
        headNumbers();
        commandNumbers();
        leftToRight();
        tooSoon();
        fullTexts();
        textStays();
        loadedHead();
        loadedCommands();
        leftOut();
        mostLeftOut();
        asInANewObject();
        likeANewOne();
        forgets();
        keepsText();
        notACamp();
        check.end();
    }

    private static void characters() {
        sentence("c: character code, 0 to 255");
        sentence("Throws IllegalArgumentException if c is out of range");
        for (int c = 0; c <= 255; c++) {
            TentCamp camp = new TentCamp();
            due("append " + c, camp.append(c), 1);
            due("it is there", camp.clearText(), 1);
        }
        TentCamp camp = new TentCamp();
        for (int c : TOO_SMALL) {
            fails("append " + c, ARGUMENT, () -> camp.append(c));
        }
        for (int c : TOO_GREAT) {
            fails("append " + c, ARGUMENT, () -> camp.append(c));
        }
        due("nothing is there", camp.clearText(), 0);
        // 256 + 'T' is no T.
        fails("append 340", ARGUMENT, () -> camp.append(256 + 'T'));
        due("nothing is there", camp.errorPosition(), 0);
        due("nothing is there", camp.clearText(), 0);
    }

    private static void length100() {
        sentence("Returns the new length of the text.");
        sentence("The object has a text buffer of at most 100 characters.");
        sentence("Throws IllegalStateException if the text already has 100 characters");
        TentCamp camp = new TentCamp();
        for (int n = 1; n <= 100; n++) {
            due("append", camp.append(n <= 99 ? 'a' : 255), n);
        }
        fails("the 101st", STATE, () -> camp.append('a'));
        fails("the 101st, 0", STATE, () -> camp.append(0));
        fails("the argument counts first", ARGUMENT, () -> camp.append(256));
        fails("the argument counts first", ARGUMENT, () -> camp.append(-1));
        due("100 are there", camp.clearText(), 100);
        for (int n = 1; n <= 100; n++) {
            due("append again", camp.append('b'), n);
        }
        fails("the 101st again", STATE, () -> camp.append('b'));
        due("100 are there", camp.clearText(), 100);
    }

    private static void clearText() {
        sentence("Returns the previous length of the text.");
        for (int n = 0; n <= 100; n++) {
            TentCamp camp = Camps.withText("T16032".repeat(17).substring(0, n));
            due("clearText", camp.clearText(), n);
            due("clearText of nothing", camp.clearText(), 0);
            due("errorPosition of nothing", camp.errorPosition(), 0);
            due("append behind it", camp.append('T'), 1);
            due("what was behind it is gone", camp.errorPosition(), 1);
        }
    }

    private static void clearFull() {
        sentence("Empties the text buffer.");
        TentCamp camp = Camps.withText("T64128" + "x".repeat(94));
        due("a full camp", camp.errorPosition(), NONE);
        due("clearText", camp.clearText(), 100);
        fails("no camp", STATE, () -> camp.load());
        Camps.write(camp, "T0800");
        due("what was behind it is gone", camp.errorPosition(), 5);
        camp.append('0');
        due("a camp again", camp.load(), 0);
        due("not poisoned by an old x", camp.about(13), 1);
        due("the usual size", camp.about(11), 8);
    }

    /** Behind the text exactly these characters are allowed; a camp if it is one without any. */
    private static void allowed(String text, String characters, boolean isCamp) {
        due("errorPosition of " + text, Camps.withText(text).errorPosition(), isCamp ? NONE : text.length());
        for (int c = 0; c <= 255; c++) {
            TentCamp camp = Camps.withText(text);
            camp.append(c);
            boolean right = characters.indexOf(c) >= 0;
            int position = camp.errorPosition();
            if (right) {
                boolean ok = position == NONE || position == text.length() + 1;
                due(text + " and " + (char) c + " are allowed", ok ? 1 : 0, 1);
            } else {
                due(text + " and the character " + c, position, text.length());
                camp.append('0');
                due("and one more", camp.errorPosition(), text.length());
                fails("load", STATE, () -> camp.load());
            }
        }
    }

    private static void firstWrongCharacter() {
        sentence("The error position is the index of the first character that these rules do not allow at its place (a digit is not "
            + "allowed if no number that is allowed begins with it and those before it)");
        allowed("", "T", false);
        allowed("T", "0123456", false);
        allowed("T0", "89", false);
        for (char c = '1'; c <= '5'; c++) {
            allowed("T" + c, DIGITS, false);
        }
        allowed("T6", "01234", false);
        for (String usual : new String[] {"08", "09", "10", "59", "60", "64"}) {
            allowed("T" + usual, "01", false);
            allowed("T" + usual + "0", DIGITS, false);
            allowed("T" + usual + "1", "012", false);
        }
        for (char c = '0'; c <= '9'; c++) {
            allowed("T160" + c, DIGITS, false);
        }
        allowed("T1610", DIGITS, false);
        allowed("T1611", DIGITS, false);
        allowed("T1612", "012345678", false);
        for (String keeps : new String[] {"000", "009", "010", "099", "100", "119", "120", "128"}) {
            allowed("T16" + keeps, COMMANDS, true);
        }
        for (String command : new String[] {"e", "l", "x", "j0", "j7", "p011", "p408", "f0000", "f2399", "eex", "j0p018l"}) {
            allowed("T16032" + command, COMMANDS, true);
        }
        for (String ahead : new String[] {"", "e", "p011", "f1999"}) {
            String text = "T16032" + ahead;
            allowed(text + "p", "01234", false);
            allowed(text + "p0", "123456789", false);
            allowed(text + "p1", DIGITS, false);
            allowed(text + "p3", DIGITS, false);
            allowed(text + "p4", "0", false);
            allowed(text + "p01", "1248", false);
            allowed(text + "p40", "1248", false);
            allowed(text + "j", "01234567", false);
            allowed(text + "f", "012", false);
            allowed(text + "f0", DIGITS, false);
            allowed(text + "f1", DIGITS, false);
            allowed(text + "f2", "0123", false);
            allowed(text + "f00", DIGITS, false);
            allowed(text + "f23", DIGITS, false);
            allowed(text + "f230", DIGITS, false);
            allowed(text + "f009", DIGITS, false);
        }
    }

    /** Where a number with so many digits goes wrong, from 0; NONE if it is one of least to greatest. */
    private static int wrongDigit(int number, int digits, int least, int greatest) {
        int span = 1;
        for (int i = 0; i < digits; i++) {
            span *= 10;
        }
        for (int i = 0; i < digits; i++) {
            span /= 10;
            boolean begins = false;
            for (int allowed = least; allowed <= greatest; allowed++) {
                begins |= allowed / span == number / span;
            }
            if (!begins) {
                return i;
            }
        }
        return NONE;
    }

    private static void numberDue(String text, int at, int wrong) {
        due("errorPosition of " + text, Camps.withText(text).errorPosition(), wrong == NONE ? NONE : at + wrong);
    }

    private static void headNumbers() {
        sentence("A camp is the letter T, two digits for the usual size (08 to 64), three for what it keeps (000 to 128)");
        for (int usual = 0; usual <= 99; usual++) {
            numberDue("T" + two(usual) + "032", 1, wrongDigit(usual, 2, 8, 64));
        }
        for (int keeps = 0; keeps <= 999; keeps++) {
            numberDue("T16" + three(keeps), 3, wrongDigit(keeps, 3, 0, 128));
        }
        due("no T", Camps.withText("16032").errorPosition(), 0);
        due("a second T", Camps.withText("TT16032").errorPosition(), 1);
        due("one digit too few", Camps.withText("T8032").errorPosition(), 1);
        due("one digit too few", Camps.withText("T1632").errorPosition(), 3);
        due("one digit too few", Camps.withText("T16032p1").errorPosition(), 8);
        due("one digit too many", Camps.withText("T160320").errorPosition(), 6);
        due("a sign", Camps.withText("T+8032").errorPosition(), 1);
        due("a sign", Camps.withText("T16-01").errorPosition(), 3);
    }

    private static void commandNumbers() {
        sentence("the letter p, two digits for a size (01 to 40) and one for a step (1, 2, 4 or 8): pitch()");
        for (int n = 0; n <= 99; n++) {
            for (int s = 0; s <= 9; s++) {
                int wrong = wrongDigit(n, 2, 1, 40);
                boolean step = s == 1 || s == 2 || s == 4 || s == 8;
                numberDue("T16032p" + two(n) + s, 7, wrong == NONE && !step ? 2 : wrong);
            }
        }
        sentence("j and a digit for a frame (0 to 7): jump(); f, two digits for a tent (00 to 23) and two for a value (00 to 99): fill()");
        for (int i = 0; i <= 9; i++) {
            numberDue("T16032j" + i, 7, wrongDigit(i, 1, 0, 7));
        }
        for (int t = 0; t <= 99; t++) {
            for (int v = 0; v <= 99; v++) {
                numberDue("T16032f" + two(t) + two(v), 7, wrongDigit(t, 2, 0, 23));
            }
        }
    }

    private static void leftToRight() {
        sentence("There are no blanks. The text is read from left to right.");
        String text = "T16032p011exj0f0000l";
        for (int n = 0; n <= text.length(); n++) {
            String blank = text.substring(0, n) + " " + text.substring(n);
            due("a blank at " + n, Camps.withText(blank).errorPosition(), n);
        }
        due("the first of two wrong ones", Camps.withText("T16032p00 e9").errorPosition(), 8);
        due("the first of two wrong ones", Camps.withText("T65999").errorPosition(), 2);
        due("a wrong one ahead of the end", Camps.withText("T9").errorPosition(), 1);
        due("left out by what stands left of it", Camps.withText("T16032f0000p011").load(), 1);
        due("not by what stands right of it", Camps.withText("T16032p011f0000").load(), 0);
    }

    private static void tooSoon() {
        sentence("if the text ends too soon, it is the length of the text.");
        String text = "T64128p408f2399j7elx";
        boolean[] camps = new boolean[text.length() + 1];
        for (int n : new int[] {6, 10, 15, 17, 18, 19, 20}) {
            camps[n] = true;
        }
        for (int n = 0; n <= text.length(); n++) {
            due("errorPosition of the first " + n, Camps.withText(text.substring(0, n)).errorPosition(), camps[n] ? NONE : n);
        }
        // One wrong character anywhere is found, whatever follows it.
        for (int n = 0; n < text.length(); n++) {
            for (char c : new char[] {' ', 0, 255, '/', ':', 'T' + 32, 'P'}) {
                String wrong = text.substring(0, n) + c + text.substring(n + 1);
                due("errorPosition with one wrong at " + n, Camps.withText(wrong).errorPosition(), n);
            }
        }
    }

    private static void fullTexts() {
        sentence("and then any number of commands");
        for (String command : new String[] {"p011", "e", "l", "j0", "f0000", "x"}) {
            // As many as there is room for, and the beginning of one more.
            int rest = 94 % command.length();
            String whole = "T16032" + command.repeat(94 / command.length());
            due("errorPosition of " + whole, Camps.withText(whole).errorPosition(), NONE);
            String more = whole + command.substring(0, rest);
            due("errorPosition of " + more, Camps.withText(more).errorPosition(), rest == 0 ? NONE : 100);
        }
        String start = "T16032" + "e".repeat(92);
        due("a camp of 98", Camps.withText(start).errorPosition(), NONE);
        due("a camp of 100", Camps.withText(start + "j7").errorPosition(), NONE);
        due("wrong at 99", Camps.withText(start + "j8").errorPosition(), 99);
        due("wrong at 99", Camps.withText(start + "eT").errorPosition(), 99);
        due("wrong at 98", Camps.withText(start + "T0").errorPosition(), 98);
        due("too soon at 100", Camps.withText(start + "ej").errorPosition(), 100);
        due("too soon at 100", Camps.withText(start + "ef").errorPosition(), 100);
        due("too soon at 99", Camps.withText(start + "p").errorPosition(), 99);
        due("too soon at 100", Camps.withText(start + "p0").errorPosition(), 100);
        due("wrong at 0", Camps.withText("e".repeat(100)).errorPosition(), 0);
        due("a second head is none", Camps.withText("T16032T16032").errorPosition(), 6);
    }

    private static void textStays() {
        sentence("Checks the text.");
        sentence("Returns the error position of the text; NONE if it is a camp.");
        TentCamp camp = Camps.withText("T16032p0");
        due("errorPosition", camp.errorPosition(), 8);
        due("errorPosition again", camp.errorPosition(), 8);
        due("append goes on behind it", camp.append('1'), 9);
        due("errorPosition", camp.errorPosition(), 9);
        due("append goes on behind it", camp.append('1'), 10);
        due("errorPosition", camp.errorPosition(), NONE);
        due("no tent is pitched", camp.about(0), 0);
        camp.append('3');
        due("errorPosition", camp.errorPosition(), 10);
        due("the text is there", camp.clearText(), 11);
    }

    private static void loadedHead() {
        sentence("Makes everything as in a new object, with the usual size and what it keeps of the text, and then does the commands of the text.");
        for (int u = 8; u <= 64; u++) {
            int keeps = (u - 8) * 128 / 56;
            TentCamp camp = Camps.withText("T" + two(u) + three(keeps));
            due("load without commands", camp.load(), 0);
            due("usual size", camp.about(11), u);
            due("keeps", camp.about(12), keeps);
            due("poisoned", camp.about(13), 1);
            due("no frames", camp.about(3), 0);
        }
        // The commands find the head's settings.
        due("5 of 8 are big", Camps.loaded("T08000p051").field(0, 0), 5);
        due("5 of 10 are not", Camps.loaded("T10000p051").field(0, 0), 10);
        due("32 of 64 are not", Camps.loaded("T64000p321").field(0, 0), 64);
        due("33 of 64 are", Camps.loaded("T64000p331").field(0, 0), 33);
    }

    private static void loadedCommands() {
        sentence("the letter p, two digits for a size (01 to 40) and one for a step (1, 2, 4 or 8): pitch(); e: enter(); l: leave(); j and a "
            + "digit for a frame (0 to 7): jump(); f, two digits for a tent (00 to 23) and two for a value (00 to 99): fill(); x: the camp is "
            + "poisoned then, if it was not, and not, if it was.");
        for (int n = 1; n <= 40; n++) {
            for (int s : STEPS) {
                TentCamp camp = Camps.loaded("T16032p" + two(n) + s);
                due("size of the tent", camp.tent(0, 2), n);
                due("its step", camp.tent(0, 3), s);
            }
        }
        for (int i = 0; i < 8; i++) {
            TentCamp camp = Camps.loaded("T16032eeeeeeeej" + i);
            due("frames behind j" + i, camp.about(3), i + 1);
        }
        for (int v = 0; v <= 99; v++) {
            due("value", Camps.loaded("T16032p021f00" + two(v)).place(0, 1), v);
        }
        for (int t = 0; t <= 21; t++) {
            TentCamp camp = Camps.loaded("T64032" + "p011".repeat(22) + "f" + two(t) + "99");
            due("only the tent " + t, camp.place(0, t), 99);
            due("behind it", camp.place(0, t + 1), 0);
        }
        TentCamp left = Camps.loaded("T16032ep031l");
        due("struck by l", left.about(10), 1);
        due("poison of l", left.about(6), 16);
        TentCamp jumped = Camps.loaded("T16032ep031j0");
        due("struck by j", jumped.about(10), 1);
        due("its frame", jumped.about(3), 1);
        for (int n = 0; n <= 4; n++) {
            due("poisoned behind x " + n + " times", Camps.loaded("T16032" + "x".repeat(n)).about(13), 1 - n % 2);
        }
    }

    private static void leftOutDue(String commands, int want) {
        due("left out of " + commands, Camps.withText("T16032" + commands).load(), want);
    }

    private static void leftOut() {
        sentence("Commands that would throw an exception are left out.");
        sentence("Returns the number of commands that are left out.");
        leftOutDue("", 0);
        leftOutDue("l", 1);
        leftOutDue("el", 0);
        leftOutDue("ell", 1);
        leftOutDue("j0", 1);
        leftOutDue("ej0", 0);
        leftOutDue("ej1", 1);
        leftOutDue("eej1", 0);
        leftOutDue("eej1j0j1", 1);
        leftOutDue("eeeeeeeej7", 0);
        leftOutDue("eeeeeeej7", 1);
        leftOutDue("eeeeeeee", 0);
        leftOutDue("eeeeeeeee", 1);
        leftOutDue("eeeeeeeeeee", 3);
        leftOutDue("f0000", 1);
        leftOutDue("p011f0000", 0);
        leftOutDue("p011f0100", 1);
        leftOutDue("p011f2399", 1);
        leftOutDue("ep011lf0000", 1);
        leftOutDue("p011".repeat(22) + "f2100", 0);
        leftOutDue("p011".repeat(22) + "f2200", 1);
        leftOutDue("p401".repeat(6) + "p161", 0);
        leftOutDue("p401".repeat(6) + "p171", 1);
        leftOutDue("p401".repeat(7) + "p161p011", 2);
        leftOutDue("x".repeat(94), 0);
        // What is left out has no effect, and what follows it is done.
        TentCamp camp = Camps.loaded("T16032lp031j0f0107f0005xe");
        due("the tent", camp.about(0), 1);
        due("the value", camp.place(0, 2), 5);
        due("not poisoned", camp.about(13), 0);
        due("the frame", camp.about(3), 1);
    }

    private static void mostLeftOut() {
        sentence("Returns the number of commands that are left out.");
        leftOutDue("l".repeat(94), 94);
        leftOutDue("j0".repeat(47), 47);
        leftOutDue("e".repeat(94), 86);
        leftOutDue("p401".repeat(23), 17);
        leftOutDue("f2399".repeat(18), 18);
    }

    private static void asInANewObject() {
        sentence("Makes everything as in a new object");
        TentCamp camp = Camps.of("K128 P0 p401 f0055 e p321 f0166 p201 p101 e p081 j0 U64 p031 e tT16032");
        due("spare ones ahead of load", camp.about(2), 3);
        due("load", camp.load(), 0);
        int[] wants = {0, 0, 0, 0, 0, 0, 0, 0, 0, 0, 0, 16, 32, 1};
        for (int what = 0; what <= 13; what++) {
            due("about " + what, camp.about(what), wants[what]);
        }
        fails("no tent", INDEX, () -> camp.tent(0, 0));
        fails("no field", INDEX, () -> camp.field(0, 0));
        fails("no frame", INDEX, () -> camp.frame(0, 0));
        due("no spare field", camp.spare(0), NONE);
        due("the whole place", camp.more(1, 1), 256);
        Camps.go(camp, "p401 p081");
        for (int k = 0; k < 40; k++) {
            due("a new field is clean", camp.place(0, k), 0);
        }
        due("greatest number of tents' places", camp.about(8), 48);
        due("greatest number of fields' places", camp.about(9), 56);
        due("load again", camp.load(), 0);
        due("no tents", camp.about(0), 0);
        due("greatest number", camp.about(8), 0);
    }

    private static TentCamp used(String calls, String text) {
        TentCamp camp = Camps.of(calls);
        camp.clearText();
        Camps.write(camp, text);
        camp.load();
        return camp;
    }

    private static void likeANewOne() {
        sentence("Makes everything as in a new object, with the usual size and what it keeps of the text, and then does the commands of the text.");
        String[] texts = {"T16032", "T08000ep051p051ep401l", "T64128p321f0055ep201p208p161j0xep054l", "T16032ep161p171l"};
        String[] before = {"K128 e 3*p401 l", "K128 P0 U8 e 24*p051 j0 e e p018 s0", "6*p401 p161 s1 8*e", "24*p011 e l U64 tTTT"};
        for (String text : texts) {
            for (String calls : before) {
                Look.alike(check, "load of " + text + " behind " + calls, () -> used("", text), () -> used(calls, text));
                TentCamp camp = used(calls, text);
                TentCamp fresh = Camps.loaded(text);
                String strike = "K32 e p401 p161 p091 p081 l";
                due("struck", Camps.go(camp, strike), Camps.go(fresh, strike));
                for (int i = 0; i < 9; i++) {
                    due("spare fields behind a striking", camp.spare(i), fresh.spare(i));
                }
            }
        }
        TentCamp camp = used("K128 e 3*p401 l", "T16032");
        due("behind load", Camps.go(camp, "e p161 p171 l"), 2);
        due("33 are too many, 17 goes", camp.about(6), 16);
    }

    private static void forgets() {
        sentence("Forgets all remembered states and empties both save slots.");
        TentCamp camp = Camps.of("8*e 6*p011 s0 s1 tT16032ep011");
        due("load", camp.load(), 0);
        fails("its commands are not remembered either", STATE, () -> camp.undo());
        fails("slot 0", STATE, () -> camp.restore(0));
        fails("slot 1", STATE, () -> camp.restore(1));
        Camps.go(camp, "e s1");
        due("one action since", camp.undo(), 0);
        fails("none ahead of it", STATE, () -> camp.undo());
        fails("slot 0 is empty still", STATE, () -> camp.restore(0));
        due("slot 1 has it", camp.restore(1), 1);
        due("two frames", camp.about(3), 2);
    }

    private static void keepsText() {
        sentence("Keeps the text.");
        TentCamp camp = Camps.withText("T16032p031e");
        due("load", camp.load(), 0);
        due("errorPosition", camp.errorPosition(), NONE);
        due("append goes on behind it", camp.append('l'), 12);
        due("load", camp.load(), 0);
        due("frames", camp.about(3), 0);
        due("tents", camp.about(0), 1);
        due("the text", camp.clearText(), 12);
        fails("no text", STATE, () -> camp.load());
        due("what was loaded stays", camp.about(0), 1);
    }

    private static void notACamp() {
        sentence("Throws IllegalStateException if the text is not a camp");
        String[] texts = {"", "T", "T1603", "T07032", "T65032", "T16129", "t16032", "T16032p001", "T16032p411", "T16032p013", "T16032p01",
            "T16032j8", "T16032f2400", "T16032f000", "T16032 ", "T16032T", " T16032", "T16032ee?", "p011", "T16032" + "e".repeat(93) + "j"};
        for (String text : texts) {
            TentCamp camp = Camps.of("p031 e s0");
            Camps.write(camp, text);
            fails("load of " + text, STATE, () -> camp.load());
            due("the tent stays", camp.about(0), 1);
            due("the frame stays", camp.about(3), 1);
            due("the text stays", camp.clearText(), text.length());
            due("the states stay", camp.undo(), 1);
            due("the slot stays", camp.restore(0), 1);
        }
    }
}
