/**
 * A camp of tents that are pitched side by side in fields and struck by jumping back.
 * What each method promises stands in the document; here stands how it is kept.
 */
public final class TentCamp {
    /** There is no such result. */
    public static final int NONE = -1;

    private static final int TEXT_LIMIT = 100;
    private static final int TENT_LIMIT = 24;
    private static final int FRAME_LIMIT = 8;
    private static final int PLACE_LIMIT = 256;
    // Half of the smallest usual size is 4, so even a big field has 5 places: 256 / 5.
    private static final int FIELD_LIMIT = 51;
    private static final int STATE_LIMIT = 14;
    private static final int SLOT_LIMIT = 2;

    private static final int POISON = 100;
    private static final int GREATEST_VALUE = 99;
    private static final int GREATEST_SIZE = 40;
    private static final int LEAST_USUAL = 8;
    private static final int GREATEST_USUAL = 64;
    private static final int FIRST_USUAL = 16;
    private static final int GREATEST_KEEPS = 128;
    private static final int FIRST_KEEPS = 32;

    private static final int ON_LAST_USUAL = 0;
    private static final int ON_SPARE = 1;
    private static final int ON_NEW = 2;
    private static final int NOWHERE = 3;

    private static final int GREATEST_SCRIPT = 3;
    private static final int GROUP = 100000;
    private static final int GREATEST_STEPS = 99;

    private final Camp camp;
    // What would be is tried on this one, so that no call has to make a camp.
    private final Camp trial;
    private final History history;
    private final Text text;
    private final Shelf slots;
    // 1 for a slot in which something has been saved since the last load.
    private final Row slotFilled;

    public TentCamp() {
        camp = new Camp();
        trial = new Camp();
        history = new History();
        text = new Text();
        slots = new Shelf(SLOT_LIMIT);
        slotFilled = new Row(SLOT_LIMIT);
    }

    // ---- text

    public int append(int c) throws IllegalArgumentException, IllegalStateException {
        if (c < 0 || c > 255) {
            throw new IllegalArgumentException("a character code is 0 to 255");
        }
        if (text.length >= TEXT_LIMIT) {
            throw new IllegalStateException("the text is full");
        }
        text.add(c);
        return text.length;
    }

    public int clearText() {
        int before = text.length;
        text.length = 0;
        return before;
    }

    public int errorPosition() {
        return text.faultPosition();
    }

    public int load() throws IllegalStateException {
        if (text.faultPosition() != NONE) {
            throw new IllegalStateException("the text is not a camp");
        }
        history.forgetAll();
        slotFilled.strew(0, 0, SLOT_LIMIT);
        text.readHead();
        camp.beginAnew(text.first, text.second);
        int leftOut = 0;
        for (int n = 0; n < TEXT_LIMIT && text.goesOn(); n++) {
            text.readCommand();
            if (!carryOut(camp, text)) {
                leftOut++;
            }
        }
        return leftOut;
    }

    // ---- what there is

    public int about(int what) throws IllegalArgumentException {
        switch (what) {
            case 0: return camp.tents.count;
            case 1: return camp.inUse.count;
            case 2: return camp.spares.count;
            case 3: return camp.frames.count;
            case 4: return camp.tents.placesFrom(0);
            case 5: return camp.inUse.places();
            case 6: return camp.spares.places();
            case 7: return camp.gaps();
            case 8: return camp.mostTentPlaces;
            case 9: return camp.mostFieldPlaces;
            case 10: return camp.struck;
            case 11: return camp.usual;
            case 12: return camp.keeps;
            case 13: return camp.poisoned;
            default: throw new IllegalArgumentException("what is 0 to 13");
        }
    }

    public int tent(int t, int what) throws IndexOutOfBoundsException, IllegalArgumentException {
        if (!camp.tents.has(t)) {
            throw new IndexOutOfBoundsException("no such tent");
        }
        switch (what) {
            case 0: return camp.tents.field.get(t);
            case 1: return camp.tents.first.get(t);
            case 2: return camp.tents.size.get(t);
            case 3: return camp.tents.step.get(t);
            case 4: return camp.frames.lastAheadOf(t);
            default: throw new IllegalArgumentException("what is 0 to 4");
        }
    }

    public int field(int f, int what) throws IndexOutOfBoundsException, IllegalArgumentException {
        if (!camp.inUse.has(f)) {
            throw new IndexOutOfBoundsException("no such field");
        }
        int start = camp.inUse.start.get(f);
        int size = camp.inUse.size.get(f);
        switch (what) {
            case 0: return size;
            case 1: return camp.inUse.big.get(f);
            case 2: return camp.tents.countOn(f);
            case 3: return size - camp.inUse.end.get(f);
            case 4: return camp.values.countOf(POISON, start, start + size);
            default: throw new IllegalArgumentException("what is 0 to 4");
        }
    }

    public int place(int f, int k) throws IndexOutOfBoundsException {
        if (!camp.inUse.has(f)) {
            throw new IndexOutOfBoundsException("no such field");
        }
        if (k < 0 || k >= camp.inUse.size.get(f)) {
            throw new IndexOutOfBoundsException("no such place");
        }
        return camp.values.get(camp.inUse.start.get(f) + k);
    }

    public int spare(int i) throws IllegalArgumentException {
        if (i < 0) {
            throw new IllegalArgumentException("i is 0 or more");
        }
        int s = camp.spares.withRank(i);
        return s == NONE ? NONE : camp.spares.size.get(s);
    }

    public int frame(int i, int what) throws IndexOutOfBoundsException, IllegalArgumentException {
        if (!camp.frames.has(i)) {
            throw new IndexOutOfBoundsException("no such frame");
        }
        switch (what) {
            case 0: return camp.frames.tents.get(i);
            case 1: return camp.frames.fields.get(i);
            case 2: return camp.tents.placesFrom(camp.frames.tents.get(i));
            default: throw new IllegalArgumentException("what is 0 to 2");
        }
    }

    // ---- actions

    public int pitch(int size, int step) throws IllegalArgumentException, IllegalStateException {
        if (!isTentKind(size, step)) {
            throw new IllegalArgumentException("no tent has this size and step");
        }
        if (camp.tents.count >= TENT_LIMIT || camp.siteFor(size, step) == NOWHERE) {
            throw new IllegalStateException("there is no room for this tent");
        }
        history.remember(camp);
        return camp.putUp(size, step);
    }

    public int fill(int t, int v) throws IndexOutOfBoundsException, IllegalArgumentException {
        if (!camp.tents.has(t)) {
            throw new IndexOutOfBoundsException("no such tent");
        }
        if (v < 0 || v > GREATEST_VALUE) {
            throw new IllegalArgumentException("a value is 0 to 99");
        }
        history.remember(camp);
        return camp.strewTent(t, v);
    }

    public int enter() throws IllegalStateException {
        if (camp.frames.count >= FRAME_LIMIT) {
            throw new IllegalStateException("there are 8 frames");
        }
        history.remember(camp);
        return camp.goIn();
    }

    public int leave() throws IllegalStateException {
        if (camp.frames.count == 0) {
            throw new IllegalStateException("there is no frame");
        }
        history.remember(camp);
        return camp.goOut();
    }

    public int jump(int i) throws IndexOutOfBoundsException {
        if (!camp.frames.has(i)) {
            throw new IndexOutOfBoundsException("no such frame");
        }
        history.remember(camp);
        return camp.goBack(i);
    }

    public int set(int what, int v) throws IllegalArgumentException {
        if (!isSetting(what, v)) {
            throw new IllegalArgumentException("no such setting, or not this value for it");
        }
        history.remember(camp);
        int before = NONE;
        switch (what) {
            case 0:
                before = camp.usual;
                camp.usual = v;
                break;
            case 1:
                before = camp.keeps;
                camp.keeps = v;
                break;
            default:
                before = camp.poisoned;
                camp.poisoned = v;
                break;
        }
        return before;
    }

    public int undo() throws IllegalStateException {
        if (history.count == 0) {
            throw new IllegalStateException("no state is remembered");
        }
        history.takeBack(camp);
        return history.count;
    }

    // ---- what would be

    public int where(int size, int step) throws IllegalArgumentException {
        if (!isTentKind(size, step)) {
            throw new IllegalArgumentException("no tent has this size and step");
        }
        return camp.siteFor(size, step);
    }

    public int givenUp(int i) throws IndexOutOfBoundsException {
        if (!camp.frames.has(i)) {
            throw new IndexOutOfBoundsException("no such frame");
        }
        trial.copy(camp);
        trial.goBack(i);
        return camp.fieldPlaces - trial.fieldPlaces;
    }

    public int bestSize() {
        int best = NONE;
        int fewest = PLACE_LIMIT + 1;
        for (int usual = LEAST_USUAL; usual <= GREATEST_USUAL; usual++) {
            trial.beginAnew(usual, FIRST_KEEPS);
            if (trial.putUpAll(camp.tents) && trial.fieldPlaces < fewest) {
                fewest = trial.fieldPlaces;
                best = usual;
            }
        }
        return best;
    }

    public int more(int size, int step) throws IllegalArgumentException {
        if (!isTentKind(size, step)) {
            throw new IllegalArgumentException("no tent has this size and step");
        }
        trial.copy(camp);
        int count = 0;
        // Only the ground is taken, tent by tent: the 24 do not matter here.
        while (count < PLACE_LIMIT && trial.takeSite(size, step) != NONE) {
            count++;
        }
        return count;
    }

    // ---- scripts, simulations

    public int runScript(int n, long script) throws IllegalArgumentException {
        if (n < 1 || n > GREATEST_SCRIPT) {
            throw new IllegalArgumentException("n is 1 to 3");
        }
        long unit = 1;
        for (int i = 1; i < n; i++) {
            unit *= GROUP;
        }
        if (script < 0 || script / unit >= GROUP) {
            throw new IllegalArgumentException("the script has 5 * n digits at most");
        }
        trial.copy(camp);
        for (int i = 0; i < n; i++) {
            int group = (int) (script / unit % GROUP);
            if (!succeeds(trial, group)) {
                return i;
            }
            // The last division leaves 1, as the groups end there.
            unit = Math.max(unit / GROUP, 1);
        }
        return NONE;
    }

    public int simulate(long seed, int m) throws IllegalArgumentException {
        if (m < 1 || m > GREATEST_STEPS) {
            throw new IllegalArgumentException("m is 1 to 99");
        }
        trial.copy(camp);
        long x = seed;
        for (int i = 0; i < m; i++) {
            x = x * 6364136223846793005L + 1442695040888963407L;
            stepOnce(trial, (int) (x >>> 33));
        }
        return 1000 * (trial.struck - camp.struck) + trial.fieldPlaces;
    }

    // ---- save slots

    public int save(int slot) throws IndexOutOfBoundsException {
        if (slot < 0 || slot >= SLOT_LIMIT) {
            throw new IndexOutOfBoundsException("no such save slot");
        }
        slots.lay(slot, camp);
        slotFilled.put(slot, 1);
        return camp.tents.count;
    }

    public int restore(int slot) throws IndexOutOfBoundsException, IllegalStateException {
        if (slot < 0 || slot >= SLOT_LIMIT) {
            throw new IndexOutOfBoundsException("no such save slot");
        }
        if (slotFilled.get(slot) == 0) {
            throw new IllegalStateException("nothing has been saved in this slot");
        }
        slots.fetch(slot, camp);
        history.forgetAll();
        return camp.tents.count;
    }

    // ---- helpers of the face

    private static boolean isStep(int step) {
        return step == 1 || step == 2 || step == 4 || step == 8;
    }

    private static boolean isTentKind(int size, int step) {
        return size >= 1 && size <= GREATEST_SIZE && isStep(step);
    }

    private static boolean isSetting(int what, int v) {
        switch (what) {
            case 0: return v >= LEAST_USUAL && v <= GREATEST_USUAL;
            case 1: return v >= 0 && v <= GREATEST_KEEPS;
            case 2: return v == 0 || v == 1;
            default: return false;
        }
    }

    /** Does the command that was read last; answers false if it is left out. */
    private static boolean carryOut(Camp c, Text command) {
        switch (command.kind) {
            case 'p': return c.putUp(command.first, command.second) != NONE;
            case 'e': return c.goIn() != NONE;
            case 'l': return c.goOut() != NONE;
            case 'j': return c.goBack(command.first) != NONE;
            case 'f': return c.strewTent(command.first, command.second) != NONE;
            default:
                c.poisoned = 1 - c.poisoned;
                return true;
        }
    }

    /** Does or checks one group of a script; answers false if it fails. */
    private static boolean succeeds(Camp c, int group) {
        int rest = group % 10000;
        int high = rest / 100;
        int low = rest % 100;
        switch (group / 10000) {
            case 1: return isTentKind(rest / 10, rest % 10) && c.putUp(rest / 10, rest % 10) != NONE;
            case 2: return rest == 0 && c.goIn() != NONE || rest == 1 && c.goOut() != NONE;
            case 3: return c.goBack(rest) != NONE;
            case 4: return c.strewTent(high, low) != NONE;
            case 5: return rest < 1000 && c.tents.placesFrom(0) <= rest;
            case 6: return rest < 1000 && c.gaps() <= rest;
            case 7: return low < 10 && c.tents.has(high) && c.tents.field.get(high) == low;
            case 8: return high == 0 && c.spares.count <= low;
            case 9: return high == 0 && c.tents.count >= low;
            default: return false;
        }
    }

    /** One step of a simulation; r is 0 or more. What is not possible is left out. */
    private static void stepOnce(Camp c, int r) {
        switch (r % 8) {
            case 0:
            case 1:
                c.goIn();
                break;
            case 2:
                c.goOut();
                break;
            case 3:
                c.goBack(r / 8 % 8);
                break;
            default:
                c.putUp(1 + r / 8 % 20, 1 << r / 256 % 4);
                break;
        }
    }

    /** A row of numbers; a cell that it does not have reads as 0 and takes nothing, so that it never throws. */
    private static final class Row {
        private final int[] cells;

        private Row(int length) {
            cells = new int[Math.max(length, 0)];
        }

        int get(int i) {
            return i >= 0 && i < cells.length ? cells[i] : 0;
        }

        void put(int i, int v) {
            if (i >= 0 && i < cells.length) {
                cells[i] = v;
            }
        }

        void strew(int v, int from, int to) {
            int past = Math.min(to, cells.length);
            for (int i = Math.max(from, 0); i < past; i++) {
                cells[i] = v;
            }
        }

        int countOf(int v, int from, int to) {
            int count = 0;
            int past = Math.min(to, cells.length);
            for (int i = Math.max(from, 0); i < past; i++) {
                if (cells[i] == v) {
                    count++;
                }
            }
            return count;
        }

        /** Takes n cells out, 1 or more; those behind them close up. */
        void cut(int from, int n) {
            if (n < 1) {
                return;
            }
            for (int i = Math.max(from, 0); i < cells.length - n; i++) {
                cells[i] = cells[i + n];
            }
        }

        void copy(Row other) {
            System.arraycopy(other.cells, 0, cells, 0, Math.min(other.cells.length, cells.length));
        }
    }

    /** The tents that stand, in the order in which they were pitched. */
    private static final class Tents {
        private int count;
        private final Row field = new Row(TENT_LIMIT);
        private final Row first = new Row(TENT_LIMIT);
        private final Row size = new Row(TENT_LIMIT);
        private final Row step = new Row(TENT_LIMIT);

        boolean has(int t) {
            return t >= 0 && t < count;
        }

        int end(int t) {
            return first.get(t) + size.get(t);
        }

        int placesFrom(int t) {
            int sum = 0;
            for (int i = t; i < count; i++) {
                sum += size.get(i);
            }
            return sum;
        }

        int countOn(int f) {
            return field.countOf(f, 0, count);
        }

        void copy(Tents other) {
            count = other.count;
            field.copy(other.field);
            first.copy(other.first);
            size.copy(other.size);
            step.copy(other.step);
        }
    }

    /** The frames, the outermost first: how many tents stood and fields were in use at each. */
    private static final class Frames {
        private int count;
        private final Row tents = new Row(FRAME_LIMIT);
        private final Row fields = new Row(FRAME_LIMIT);

        boolean has(int i) {
            return i >= 0 && i < count;
        }

        /** A frame that outlives a tent was entered before it, so the tents that stood then tell which it was. */
        int lastAheadOf(int t) {
            int last = NONE;
            for (int i = 0; i < count; i++) {
                if (tents.get(i) <= t) {
                    last = i;
                }
            }
            return last;
        }

        void copy(Frames other) {
            count = other.count;
            tents.copy(other.tents);
            fields.copy(other.fields);
        }
    }

    /** Fields in an order: those in use as they came, or the spare ones as they became spare. */
    private static final class Fields {
        private int count;
        // Where its values begin in the camp's row of values.
        private final Row start = new Row(FIELD_LIMIT);
        private final Row size = new Row(FIELD_LIMIT);
        private final Row big = new Row(FIELD_LIMIT);
        // The place behind its last tent.
        private final Row end = new Row(FIELD_LIMIT);

        boolean has(int f) {
            return f >= 0 && f < count;
        }

        void add(int itsStart, int itsSize, boolean isBig, int itsEnd) {
            if (count < FIELD_LIMIT) {
                start.put(count, itsStart);
                size.put(count, itsSize);
                big.put(count, isBig ? 1 : 0);
                end.put(count, itsEnd);
                count++;
            }
        }

        void remove(int f) {
            if (has(f)) {
                start.cut(f, 1);
                size.cut(f, 1);
                big.cut(f, 1);
                end.cut(f, 1);
                count--;
            }
        }

        int places() {
            int sum = 0;
            for (int f = 0; f < count; f++) {
                sum += size.get(f);
            }
            return sum;
        }

        int lastUsual() {
            int last = NONE;
            for (int f = 0; f < count; f++) {
                if (big.get(f) == 0) {
                    last = f;
                }
            }
            return last;
        }

        /** The smallest with so many places, of several like ones the first. */
        int smallestFor(int places) {
            int best = NONE;
            for (int f = 0; f < count; f++) {
                if (size.get(f) >= places && (best == NONE || size.get(f) < size.get(best))) {
                    best = f;
                }
            }
            return best;
        }

        /** The greatest, of several like ones the last. */
        int greatest() {
            int best = NONE;
            for (int f = 0; f < count; f++) {
                if (best == NONE || size.get(f) >= size.get(best)) {
                    best = f;
                }
            }
            return best;
        }

        /** The one that has so many ahead of it: smaller ones, and like ones that came earlier. */
        int withRank(int rank) {
            for (int f = 0; f < count; f++) {
                if (countAheadOf(f) == rank) {
                    return f;
                }
            }
            return NONE;
        }

        private int countAheadOf(int f) {
            int ahead = 0;
            for (int g = 0; g < count; g++) {
                if (size.get(g) < size.get(f) || size.get(g) == size.get(f) && g < f) {
                    ahead++;
                }
            }
            return ahead;
        }

        /** Follows the values that close up when n of them ahead of these fields go. */
        void closeUp(int from, int n) {
            for (int f = 0; f < count; f++) {
                if (start.get(f) > from) {
                    start.put(f, start.get(f) - n);
                }
            }
        }

        void copy(Fields other) {
            count = other.count;
            start.copy(other.start);
            size.copy(other.size);
            big.copy(other.big);
            end.copy(other.end);
        }
    }

    /** The state: everything but the text and the save slots. */
    private static final class Camp {
        private int usual = FIRST_USUAL;
        private int keeps = FIRST_KEEPS;
        private int poisoned = 1;
        private int struck;
        private int mostTentPlaces;
        private int mostFieldPlaces;
        private int fieldPlaces;
        // The values of all fields, field behind field; only the first fieldPlaces of them count.
        private final Row values = new Row(PLACE_LIMIT);
        private final Tents tents = new Tents();
        private final Frames frames = new Frames();
        private final Fields inUse = new Fields();
        private final Fields spares = new Fields();

        void beginAnew(int usualThen, int keepsThen) {
            usual = usualThen;
            keeps = keepsThen;
            poisoned = 1;
            struck = 0;
            mostTentPlaces = 0;
            mostFieldPlaces = 0;
            fieldPlaces = 0;
            tents.count = 0;
            frames.count = 0;
            inUse.count = 0;
            spares.count = 0;
        }

        void copy(Camp other) {
            usual = other.usual;
            keeps = other.keeps;
            poisoned = other.poisoned;
            struck = other.struck;
            mostTentPlaces = other.mostTentPlaces;
            mostFieldPlaces = other.mostFieldPlaces;
            fieldPlaces = other.fieldPlaces;
            values.copy(other.values);
            tents.copy(other.tents);
            frames.copy(other.frames);
            inUse.copy(other.inUse);
            spares.copy(other.spares);
        }

        private boolean wantsBig(int size) {
            return size > usual / 2;
        }

        private int newFieldSize(int size) {
            return wantsBig(size) ? size : usual;
        }

        /** The lowest place behind all tents of the field that a tent with this step may begin at. */
        private int openPlace(int f, int step) {
            int past = inUse.end.get(f) + step - 1;
            // A step is a power of two.
            return past & -step;
        }

        int siteFor(int size, int step) {
            int last = inUse.lastUsual();
            if (last != NONE && openPlace(last, step) + size <= inUse.size.get(last)) {
                return ON_LAST_USUAL;
            }
            if (spares.smallestFor(size) != NONE) {
                return ON_SPARE;
            }
            return fieldPlaces + newFieldSize(size) <= PLACE_LIMIT ? ON_NEW : NOWHERE;
        }

        /** Takes the ground for a tent, up to the end of its field; answers the field, or NONE. */
        int takeSite(int size, int step) {
            switch (siteFor(size, step)) {
                case ON_LAST_USUAL:
                    int last = inUse.lastUsual();
                    inUse.end.put(last, openPlace(last, step) + size);
                    return last;
                case ON_SPARE:
                    int s = spares.smallestFor(size);
                    inUse.add(spares.start.get(s), spares.size.get(s), wantsBig(size), size);
                    spares.remove(s);
                    return inUse.count - 1;
                case ON_NEW:
                    int places = newFieldSize(size);
                    values.strew(0, fieldPlaces, fieldPlaces + places);
                    inUse.add(fieldPlaces, places, wantsBig(size), size);
                    fieldPlaces += places;
                    return inUse.count - 1;
                default:
                    return NONE;
            }
        }

        /** Pitches a tent; answers its number, or NONE. */
        int putUp(int size, int step) {
            if (tents.count >= TENT_LIMIT) {
                return NONE;
            }
            int f = takeSite(size, step);
            if (f == NONE) {
                return NONE;
            }
            int t = tents.count;
            tents.field.put(t, f);
            tents.first.put(t, inUse.end.get(f) - size);
            tents.size.put(t, size);
            tents.step.put(t, step);
            tents.count++;
            mostTentPlaces = Math.max(mostTentPlaces, tents.placesFrom(0));
            mostFieldPlaces = Math.max(mostFieldPlaces, fieldPlaces);
            return t;
        }

        boolean putUpAll(Tents others) {
            for (int t = 0; t < others.count; t++) {
                if (putUp(others.size.get(t), others.step.get(t)) == NONE) {
                    return false;
                }
            }
            return true;
        }

        /** Gives the places of a tent a value; answers how many had poison, or NONE without such a tent. */
        int strewTent(int t, int v) {
            if (!tents.has(t)) {
                return NONE;
            }
            int start = inUse.start.get(tents.field.get(t));
            int from = start + tents.first.get(t);
            int to = start + tents.end(t);
            int poison = values.countOf(POISON, from, to);
            values.strew(v, from, to);
            return poison;
        }

        /** Enters a frame; answers its number, or NONE. */
        int goIn() {
            if (frames.count >= FRAME_LIMIT) {
                return NONE;
            }
            int i = frames.count;
            frames.tents.put(i, tents.count);
            frames.fields.put(i, inUse.count);
            frames.count++;
            return i;
        }

        /** Leaves the last frame; answers how many tents are struck, or NONE. */
        int goOut() {
            int count = goBack(frames.count - 1);
            if (count != NONE) {
                frames.count--;
            }
            return count;
        }

        /** Jumps to a frame; answers how many tents are struck, or NONE. */
        int goBack(int i) {
            if (!frames.has(i)) {
                return NONE;
            }
            int count = strikeTents(frames.tents.get(i));
            clearFields(frames.fields.get(i));
            giveUpTooMuch();
            frames.count = i + 1;
            return count;
        }

        private int strikeTents(int staying) {
            int count = tents.count - staying;
            if (poisoned == 1) {
                for (int t = staying; t < tents.count; t++) {
                    strewTent(t, POISON);
                }
            }
            tents.count = staying;
            struck += count;
            return count;
        }

        private void clearFields(int staying) {
            for (int f = inUse.count - 1; f >= staying; f--) {
                spares.add(inUse.start.get(f), inUse.size.get(f), false, 0);
            }
            inUse.count = staying;
            // The last tent of a field that stays may be gone; another one stands on it for sure.
            for (int t = 0; t < tents.count; t++) {
                inUse.end.put(tents.field.get(t), tents.end(t));
            }
        }

        private void giveUpTooMuch() {
            for (int n = 0; n < FIELD_LIMIT && spares.places() > keeps; n++) {
                int s = spares.greatest();
                int from = spares.start.get(s);
                int places = spares.size.get(s);
                spares.remove(s);
                values.cut(from, places);
                inUse.closeUp(from, places);
                spares.closeUp(from, places);
                fieldPlaces -= places;
            }
        }

        int gaps() {
            int lastUsual = inUse.lastUsual();
            int sum = 0;
            for (int f = 0; f <= lastUsual; f++) {
                if (inUse.big.get(f) == 0) {
                    sum += f == lastUsual ? inUse.end.get(f) : inUse.size.get(f);
                }
            }
            for (int t = 0; t < tents.count; t++) {
                if (inUse.big.get(tents.field.get(t)) == 0) {
                    sum -= tents.size.get(t);
                }
            }
            return sum;
        }
    }

    /** Camps that stand ready to take a copy of a state: none has to be made later. */
    private static final class Shelf {
        private final Camp[] camps;

        private Shelf(int length) {
            camps = new Camp[Math.max(length, 0)];
            for (int i = 0; i < camps.length; i++) {
                camps[i] = new Camp();
            }
        }

        private Camp at(int i) {
            return i >= 0 && i < camps.length ? camps[i] : null;
        }

        void lay(int i, Camp now) {
            Camp kept = at(i);
            if (kept != null) {
                kept.copy(now);
            }
        }

        void fetch(int i, Camp now) {
            Camp kept = at(i);
            if (kept != null) {
                now.copy(kept);
            }
        }
    }

    /** The remembered states, in a ring: the newest takes the place of the oldest. */
    private static final class History {
        private int count;
        private int next;
        private final Shelf states = new Shelf(STATE_LIMIT);

        void forgetAll() {
            count = 0;
        }

        void remember(Camp now) {
            states.lay(next, now);
            next = next + 1 < STATE_LIMIT ? next + 1 : 0;
            count = Math.min(count + 1, STATE_LIMIT);
        }

        void takeBack(Camp now) {
            next = next > 0 ? next - 1 : STATE_LIMIT - 1;
            count = Math.max(count - 1, 0);
            states.fetch(next, now);
        }
    }

    /** The text buffer, and a reader that goes through it from left to right. */
    private static final class Text {
        private int length;
        private final Row signs = new Row(TEXT_LIMIT);
        // Where the reader stands; it stays there once something is wrong.
        private int at;
        private boolean wrong;
        // What was read last: a command's letter ('T' for the head) and its numbers.
        private int kind;
        private int first;
        private int second;

        void add(int c) {
            signs.put(length, c);
            length++;
        }

        /** The error position, or NONE. */
        int faultPosition() {
            readHead();
            for (int n = 0; n < TEXT_LIMIT && goesOn(); n++) {
                readCommand();
            }
            return wrong ? at : NONE;
        }

        boolean goesOn() {
            return !wrong && at < length;
        }

        void readHead() {
            at = 0;
            wrong = false;
            kind = readLetter();
            if (kind != 'T') {
                failAt(0);
            }
            first = readNumber(2, LEAST_USUAL, GREATEST_USUAL);
            second = readNumber(3, 0, GREATEST_KEEPS);
        }

        void readCommand() {
            int begin = at;
            kind = readLetter();
            switch (kind) {
                case 'p':
                    first = readNumber(2, 1, GREATEST_SIZE);
                    second = readStep();
                    break;
                case 'j':
                    first = readNumber(1, 0, FRAME_LIMIT - 1);
                    break;
                case 'f':
                    first = readNumber(2, 0, TENT_LIMIT - 1);
                    second = readNumber(2, 0, GREATEST_VALUE);
                    break;
                case 'e':
                case 'l':
                case 'x':
                    break;
                default:
                    failAt(begin);
                    break;
            }
        }

        private void failAt(int position) {
            at = position;
            wrong = true;
        }

        /** The sign where the reader stands, or NONE behind the last one; goes on behind it. */
        private int readLetter() {
            if (!goesOn()) {
                return NONE;
            }
            int c = signs.get(at);
            at++;
            return c;
        }

        /** The digit where the reader stands, or NONE. */
        private int digitHere() {
            int c = at < length ? signs.get(at) : NONE;
            return c >= '0' && c <= '9' ? c - '0' : NONE;
        }

        private int readNumber(int digits, int least, int greatest) {
            int span = 1;
            for (int i = 0; i < digits; i++) {
                span *= 10;
            }
            int number = 0;
            for (int i = 0; i < digits && !wrong; i++) {
                // The numbers that begin with the digits so far: span of them from lowest on.
                span = span / 10;
                int digit = digitHere();
                int lowest = number + digit * span;
                if (digit == NONE || lowest > greatest || lowest + span - 1 < least) {
                    wrong = true;
                } else {
                    number = lowest;
                    at++;
                }
            }
            return number;
        }

        private int readStep() {
            int digit = wrong ? NONE : digitHere();
            if (isStep(digit)) {
                at++;
            } else {
                wrong = true;
            }
            return digit;
        }
    }
}
