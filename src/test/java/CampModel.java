import java.util.ArrayList;
import java.util.Comparator;
import java.util.List;
import java.util.regex.Matcher;
import java.util.regex.Pattern;

/**
 * The document written down a second time, with fields that are objects of their own and with everything
 * counted place by place. It is slow and plain, so that it goes wrong in other ways than the class would.
 */
final class CampModel {
    static final class Field {
        int[] values;
        boolean[] taken;
        boolean big;

        Field(int places) {
            values = new int[places];
            taken = new boolean[places];
        }
    }

    record Tent(Field field, int first, int size, int step, int frame) { }

    record Frame(int tents, int fields) { }

    static final class State {
        int usual = 16;
        int keeps = 32;
        boolean poisoned = true;
        int struck;
        int mostOfTents;
        int mostOfFields;
        List<Tent> tents = new ArrayList<>();
        List<Field> inUse = new ArrayList<>();
        List<Field> spares = new ArrayList<>();
        List<Frame> frames = new ArrayList<>();

        State copy() {
            State s = new State();
            s.usual = usual;
            s.keeps = keeps;
            s.poisoned = poisoned;
            s.struck = struck;
            s.mostOfTents = mostOfTents;
            s.mostOfFields = mostOfFields;
            java.util.IdentityHashMap<Field, Field> now = new java.util.IdentityHashMap<>();
            for (Field f : inUse) {
                now.put(f, copy(f));
                s.inUse.add(now.get(f));
            }
            for (Field f : spares) {
                s.spares.add(copy(f));
            }
            for (Tent t : tents) {
                s.tents.add(new Tent(now.get(t.field), t.first, t.size, t.step, t.frame));
            }
            s.frames.addAll(frames);
            return s;
        }

        private static Field copy(Field f) {
            Field g = new Field(0);
            g.values = f.values.clone();
            g.taken = f.taken.clone();
            g.big = f.big;
            return g;
        }
    }

    State now = new State();
    final List<State> remembered = new ArrayList<>();
    final State[] slots = new State[2];
    String text = "";

    // ---- text

    private static final String COMMAND = "p(0[1-9]|[123][0-9]|40)[1248]|e|l|x|j[0-7]|f([01][0-9]|2[0-3])[0-9][0-9]";
    private static final Pattern CAMP =
        Pattern.compile("T(0[89]|[1-5][0-9]|6[0-4])(0[0-9][0-9]|1[01][0-9]|12[0-8])(" + COMMAND + ")*", Pattern.DOTALL);

    int append(int c) {
        argument(c >= 0 && c <= 255);
        state(text.length() < 100);
        text += (char) c;
        return text.length();
    }

    int clearText() {
        int before = text.length();
        text = "";
        return before;
    }

    int errorPosition() {
        if (CAMP.matcher(text).matches()) {
            return -1;
        }
        for (int n = 1; n <= text.length(); n++) {
            Matcher m = CAMP.matcher(text.substring(0, n));
            if (!m.matches() && !m.hitEnd()) {
                return n - 1;
            }
        }
        return text.length();
    }

    int load() {
        state(errorPosition() == -1);
        now = new State();
        now.usual = Integer.parseInt(text.substring(1, 3));
        now.keeps = Integer.parseInt(text.substring(3, 6));
        remembered.clear();
        slots[0] = null;
        slots[1] = null;
        int leftOut = 0;
        Matcher m = Pattern.compile(COMMAND).matcher(text.substring(6));
        while (m.find()) {
            leftOut += command(m.group()) ? 0 : 1;
        }
        return leftOut;
    }

    private boolean command(String c) {
        try {
            switch (c.charAt(0)) {
                case 'p' -> pitchIn(now, Integer.parseInt(c.substring(1, 3)), c.charAt(3) - '0');
                case 'e' -> enterIn(now);
                case 'l' -> leaveIn(now);
                case 'j' -> jumpIn(now, c.charAt(1) - '0');
                case 'f' -> fillIn(now, Integer.parseInt(c.substring(1, 3)), Integer.parseInt(c.substring(3)));
                default -> now.poisoned = !now.poisoned;
            }
            return true;
        } catch (IllegalStateException | IllegalArgumentException | IndexOutOfBoundsException e) {
            return false;
        }
    }

    // ---- what there is

    int about(int what) {
        argument(what >= 0 && what <= 13);
        return switch (what) {
            case 0 -> now.tents.size();
            case 1 -> now.inUse.size();
            case 2 -> now.spares.size();
            case 3 -> now.frames.size();
            case 4 -> ofTents(now, 0);
            case 5 -> places(now.inUse);
            case 6 -> places(now.spares);
            case 7 -> gaps(now);
            case 8 -> now.mostOfTents;
            case 9 -> now.mostOfFields;
            case 10 -> now.struck;
            case 11 -> now.usual;
            case 12 -> now.keeps;
            default -> now.poisoned ? 1 : 0;
        };
    }

    int tent(int t, int what) {
        index(t >= 0 && t < now.tents.size());
        argument(what >= 0 && what <= 4);
        Tent tent = now.tents.get(t);
        return switch (what) {
            case 0 -> now.inUse.indexOf(tent.field);
            case 1 -> tent.first;
            case 2 -> tent.size;
            case 3 -> tent.step;
            default -> tent.frame;
        };
    }

    int field(int f, int what) {
        index(f >= 0 && f < now.inUse.size());
        argument(what >= 0 && what <= 4);
        Field field = now.inUse.get(f);
        return switch (what) {
            case 0 -> field.values.length;
            case 1 -> field.big ? 1 : 0;
            case 2 -> (int) now.tents.stream().filter(t -> t.field == field).count();
            case 3 -> field.values.length - pastLast(field);
            default -> (int) java.util.Arrays.stream(field.values).filter(v -> v == 100).count();
        };
    }

    int place(int f, int k) {
        index(f >= 0 && f < now.inUse.size());
        index(k >= 0 && k < now.inUse.get(f).values.length);
        return now.inUse.get(f).values[k];
    }

    int spare(int i) {
        argument(i >= 0);
        List<Field> sorted = bySize(now.spares);
        return i < sorted.size() ? sorted.get(i).values.length : -1;
    }

    int frame(int i, int what) {
        index(i >= 0 && i < now.frames.size());
        argument(what >= 0 && what <= 2);
        Frame frame = now.frames.get(i);
        return switch (what) {
            case 0 -> frame.tents;
            case 1 -> frame.fields;
            default -> ofTents(now, frame.tents);
        };
    }

    // ---- actions

    int pitch(int size, int step) {
        State before = now.copy();
        int t = pitchIn(now, size, step);
        remember(before);
        return t;
    }

    int fill(int t, int v) {
        State before = now.copy();
        int poison = fillIn(now, t, v);
        remember(before);
        return poison;
    }

    int enter() {
        State before = now.copy();
        int i = enterIn(now);
        remember(before);
        return i;
    }

    int leave() {
        State before = now.copy();
        int struck = leaveIn(now);
        remember(before);
        return struck;
    }

    int jump(int i) {
        State before = now.copy();
        int struck = jumpIn(now, i);
        remember(before);
        return struck;
    }

    int set(int what, int v) {
        argument(what >= 0 && what <= 2);
        argument(what != 0 || v >= 8 && v <= 64);
        argument(what != 1 || v >= 0 && v <= 128);
        argument(what != 2 || v >= 0 && v <= 1);
        State before = now.copy();
        if (what == 0) {
            now.usual = v;
        } else if (what == 1) {
            now.keeps = v;
        } else {
            now.poisoned = v == 1;
        }
        remember(before);
        return what == 0 ? before.usual : what == 1 ? before.keeps : before.poisoned ? 1 : 0;
    }

    int undo() {
        state(!remembered.isEmpty());
        now = remembered.remove(remembered.size() - 1);
        return remembered.size();
    }

    private void remember(State before) {
        remembered.add(before);
        if (remembered.size() > 14) {
            remembered.remove(0);
        }
    }

    // ---- what would be

    int where(int size, int step) {
        kind(size, step);
        State s = now.copy();
        int spares = s.spares.size();
        int fields = s.inUse.size();
        if (!takeGround(s, size, step, -1)) {
            return 3;
        }
        return s.spares.size() < spares ? 1 : s.inUse.size() > fields ? 2 : 0;
    }

    int givenUp(int i) {
        State s = now.copy();
        int before = allPlaces(s);
        jumpIn(s, i);
        return before - allPlaces(s);
    }

    int bestSize() {
        int best = -1;
        int fewest = Integer.MAX_VALUE;
        for (int usual = 64; usual >= 8; usual--) {
            State s = new State();
            s.usual = usual;
            boolean all = true;
            for (Tent t : now.tents) {
                all = all && takeGround(s, t.size, t.step, -1);
            }
            if (all && allPlaces(s) <= fewest) {
                fewest = allPlaces(s);
                best = usual;
            }
        }
        return best;
    }

    int more(int size, int step) {
        kind(size, step);
        State s = now.copy();
        int count = 0;
        while (takeGround(s, size, step, -1)) {
            count++;
        }
        return count;
    }

    // ---- scripts, simulations

    int runScript(int n, long script) {
        argument(n >= 1 && n <= 3);
        argument(script >= 0 && Long.toString(script).length() <= 5 * n);
        String digits = "0".repeat(5 * n - Long.toString(script).length()) + script;
        State s = now.copy();
        for (int i = 0; i < n; i++) {
            if (!group(s, digits.substring(5 * i, 5 * i + 5))) {
                return i;
            }
        }
        return -1;
    }

    private boolean group(State s, String g) {
        try {
            int tt = Integer.parseInt(g.substring(1, 3));
            int low = Integer.parseInt(g.substring(3));
            int xyz = Integer.parseInt(g.substring(2));
            if (g.matches("10...")) {
                pitchIn(s, Integer.parseInt(g.substring(2, 4)), g.charAt(4) - '0');
            } else if (g.equals("20000")) {
                enterIn(s);
            } else if (g.equals("20001")) {
                leaveIn(s);
            } else if (g.matches("3000.")) {
                jumpIn(s, g.charAt(4) - '0');
            } else if (g.matches("4....")) {
                fillIn(s, tt, low);
            } else if (g.matches("50...")) {
                return ofTents(s, 0) <= xyz;
            } else if (g.matches("60...")) {
                return gaps(s) <= xyz;
            } else if (g.matches("7..0.")) {
                return s.inUse.indexOf(s.tents.get(tt).field) == low;
            } else if (g.matches("800..")) {
                return s.spares.size() <= low;
            } else if (g.matches("900..")) {
                return s.tents.size() >= low;
            } else {
                return false;
            }
            return true;
        } catch (IllegalStateException | IllegalArgumentException | IndexOutOfBoundsException e) {
            return false;
        }
    }

    int simulate(long seed, int m) {
        argument(m >= 1 && m <= 99);
        State s = now.copy();
        long x = seed;
        for (int i = 0; i < m; i++) {
            x = x * 6364136223846793005L + 1442695040888963407L;
            int r = (int) (x >>> 33);
            try {
                switch (r % 8) {
                    case 0, 1 -> enterIn(s);
                    case 2 -> leaveIn(s);
                    case 3 -> jumpIn(s, r / 8 % 8);
                    default -> pitchIn(s, 1 + r / 8 % 20, 1 << r / 256 % 4);
                }
            } catch (IllegalStateException | IndexOutOfBoundsException e) {
                continue;
            }
        }
        return 1000 * (s.struck - now.struck) + allPlaces(s);
    }

    // ---- save slots

    int save(int slot) {
        index(slot == 0 || slot == 1);
        slots[slot] = now.copy();
        return now.tents.size();
    }

    int restore(int slot) {
        index(slot == 0 || slot == 1);
        state(slots[slot] != null);
        now = slots[slot].copy();
        remembered.clear();
        return now.tents.size();
    }

    // ---- the terms

    private static int pitchIn(State s, int size, int step) {
        kind(size, step);
        state(s.tents.size() < 24);
        state(takeGround(s, size, step, s.frames.size() - 1));
        s.mostOfTents = Math.max(s.mostOfTents, ofTents(s, 0));
        s.mostOfFields = Math.max(s.mostOfFields, allPlaces(s));
        return s.tents.size() - 1;
    }

    /** Pitches, also a 25th tent. */
    private static boolean takeGround(State s, int size, int step, int frame) {
        Field usual = null;
        for (Field f : s.inUse) {
            usual = f.big ? usual : f;
        }
        if (usual != null) {
            for (int k = 0; k + size <= usual.values.length; k += step) {
                if (k >= pastLast(usual)) {
                    stand(s, usual, k, size, step, frame);
                    return true;
                }
            }
        }
        boolean big = size > s.usual / 2;
        Field chosen = null;
        for (Field f : bySize(s.spares)) {
            if (chosen == null && f.values.length >= size) {
                chosen = f;
            }
        }
        if (chosen == null) {
            chosen = new Field(big ? size : s.usual);
            if (allPlaces(s) + chosen.values.length > 256) {
                return false;
            }
        }
        s.spares.remove(chosen);
        chosen.big = big;
        s.inUse.add(chosen);
        stand(s, chosen, 0, size, step, frame);
        return true;
    }

    private static void stand(State s, Field f, int first, int size, int step, int frame) {
        java.util.Arrays.fill(f.taken, first, first + size, true);
        s.tents.add(new Tent(f, first, size, step, frame));
    }

    private static int fillIn(State s, int t, int v) {
        index(t >= 0 && t < s.tents.size());
        argument(v >= 0 && v <= 99);
        Tent tent = s.tents.get(t);
        int poison = 0;
        for (int k = tent.first; k < tent.first + tent.size; k++) {
            poison += tent.field.values[k] == 100 ? 1 : 0;
            tent.field.values[k] = v;
        }
        return poison;
    }

    private static int enterIn(State s) {
        state(s.frames.size() < 8);
        s.frames.add(new Frame(s.tents.size(), s.inUse.size()));
        return s.frames.size() - 1;
    }

    private static int leaveIn(State s) {
        state(!s.frames.isEmpty());
        int struck = strike(s, s.frames.get(s.frames.size() - 1));
        s.frames.remove(s.frames.size() - 1);
        return struck;
    }

    private static int jumpIn(State s, int i) {
        index(i >= 0 && i < s.frames.size());
        int struck = strike(s, s.frames.get(i));
        while (s.frames.size() > i + 1) {
            s.frames.remove(s.frames.size() - 1);
        }
        return struck;
    }

    private static int strike(State s, Frame frame) {
        int struck = 0;
        while (s.tents.size() > frame.tents) {
            Tent t = s.tents.remove(s.tents.size() - 1);
            for (int k = t.first; k < t.first + t.size; k++) {
                t.field.taken[k] = false;
                t.field.values[k] = s.poisoned ? 100 : t.field.values[k];
            }
            struck++;
        }
        while (s.inUse.size() > frame.fields) {
            s.spares.add(s.inUse.remove(s.inUse.size() - 1));
        }
        while (places(s.spares) > s.keeps) {
            Field greatest = s.spares.get(0);
            for (Field f : s.spares) {
                greatest = f.values.length >= greatest.values.length ? f : greatest;
            }
            s.spares.remove(greatest);
        }
        s.struck += struck;
        return struck;
    }

    private static List<Field> bySize(List<Field> fields) {
        List<Field> sorted = new ArrayList<>(fields);
        sorted.sort(Comparator.comparingInt(f -> f.values.length));
        return sorted;
    }

    private static int pastLast(Field f) {
        int past = 0;
        for (int k = 0; k < f.taken.length; k++) {
            past = f.taken[k] ? k + 1 : past;
        }
        return past;
    }

    private static int gaps(State s) {
        int gaps = 0;
        for (int i = 0; i < s.inUse.size(); i++) {
            Field f = s.inUse.get(i);
            boolean later = s.inUse.subList(i + 1, s.inUse.size()).stream().anyMatch(g -> !g.big);
            for (int k = 0; k < f.taken.length && !f.big; k++) {
                gaps += !f.taken[k] && (later || k < pastLast(f)) ? 1 : 0;
            }
        }
        return gaps;
    }

    private static int ofTents(State s, int from) {
        return s.tents.subList(from, s.tents.size()).stream().mapToInt(Tent::size).sum();
    }

    private static int places(List<Field> fields) {
        return fields.stream().mapToInt(f -> f.values.length).sum();
    }

    private static int allPlaces(State s) {
        return places(s.inUse) + places(s.spares);
    }

    private static void kind(int size, int step) {
        argument(size >= 1 && size <= 40 && (step == 1 || step == 2 || step == 4 || step == 8));
    }

    private static void argument(boolean right) {
        if (!right) {
            throw new IllegalArgumentException();
        }
    }

    private static void index(boolean right) {
        if (!right) {
            throw new IndexOutOfBoundsException();
        }
    }

    private static void state(boolean right) {
        if (!right) {
            throw new IllegalStateException();
        }
    }
}
