/** Toast racks as gaols; ../shared/DOC.md says in its words what each call answers. */
public final class ToastGaol {
    public static final int NONE = -1, BAD = -2, NOT = -3, FULL = -4;

    private static final int HOURS = 30;
    private static final int MOST_SLOTS = 10, MOST_SLICES = 8;
    private static final int MOST_BUTTERS = 8, MOST_FIRES = 4, MOST_SEEN = 8;
    private static final int SLICE_BYTES = 5, SLICES_BYTES = 39;
    private static final int HEATS = 100, HOTTEST = 99, SUMMERS = 10;
    private static final int RACK = 0, BREAD = 1;
    private static final int WHITE = 0, CRUST = 1, BURNT = 2, TRIANGLE = 3, NO_KIND = -1;
    private static final int LEANS = 0, STANDS = 1, FREE = 2, SOFTENED = 3, STATES = 4;
    private static final int COLD = 0, SUMMER = 1, SOFT = 2;
    private static final int SHEETS = 4, FORMS = 3, MOST_ITEMS = 60;
    private static final int NULL = 1, INDEX = 2, CAST = 3, STORE = 4, SIZE = 5;
    private static final int LEAST_INT = 1 << 31;
    private static final long LEAST_LONG = 1L << 63;
    private static final int[] GREATEST = {30, 9, 99};
    private static final int[] DIGEST_HOURS = {0, 5, 29};

    private final Text[] texts = new Text[2];
    private final Setting setting = new Setting();
    private final Log log = new Log(setting);
    /** One course serves all searches: none needs it behind its own call. */
    private final Course trial = new Course(setting);
    private final Plans plans = new Plans(setting, trial);
    private final Sightings sightings = new Sightings(setting);
    private final Guesses guesses = new Guesses(setting, sightings, trial);
    private final Window window = new Window(setting);
    private final Others others = new Others(setting, trial);
    private final Sheet[] sheets = new Sheet[SHEETS];
    private int finding = 0;

    public ToastGaol() {
        texts[RACK] = new Text(MOST_SLOTS);
        texts[BREAD] = new Text(SLICES_BYTES);
        for (int s = 0; s < SHEETS; s++) {
            sheets[s] = new Sheet();
        }
    }

    // ---- the rack, slices, butters, fires

    public int type(int text, int b) {
        if (!isText(text) || !isWithin(b, 255)) {
            return BAD;
        }
        Text typed = texts[text];
        if (typed.size >= typed.bytes.length) {
            return FULL;
        }
        typed.bytes[typed.size] = b;
        typed.size++;
        learn(text);
        return typed.size;
    }

    public int wipe(int text) {
        if (!isText(text)) {
            return BAD;
        }
        int had = texts[text].size;
        texts[text].size = 0;
        learn(text);
        return had;
    }

    public int undo(int text) {
        if (!isText(text)) {
            return BAD;
        }
        if (texts[text].size == 0) {
            return NOT;
        }
        texts[text].size--;
        learn(text);
        return texts[text].size;
    }

    public int fault(int text) {
        if (!isText(text)) {
            return BAD;
        }
        return text == RACK ? texts[RACK].faultAsRack() : texts[BREAD].faultAsSlices();
    }

    public int draws(int slot) {
        return isWithin(slot, setting.slots - 1) ? setting.draws[slot] : BAD;
    }

    public int slice(int slice, int what) {
        if (!isSlice(slice) || !isWithin(what, 2)) {
            return BAD;
        }
        if (what == 0) {
            return setting.kind[slice];
        }
        return what == 1 ? setting.heat[slice] : setting.slot[slice];
    }

    public int set(int what, int v) {
        if (!isWithin(what, SOFT) || !isWithin(v, GREATEST[what])) {
            return BAD;
        }
        int was = setting.rule[what];
        setting.rule[what] = v;
        log.fresh = false;
        return was;
    }

    public int butter(int hour, int slice) {
        if (!isHour(hour) || !isWithin(slice, MOST_SLICES - 1)) {
            return BAD;
        }
        if (setting.butters >= MOST_BUTTERS) {
            return FULL;
        }
        setting.butterHour[setting.butters] = hour;
        setting.butterSlice[setting.butters] = slice;
        setting.butters++;
        log.fresh = false;
        return setting.butters;
    }

    public int fire(int hour) {
        if (!isHour(hour)) {
            return BAD;
        }
        if (setting.fires >= MOST_FIRES) {
            return FULL;
        }
        setting.fireHour[setting.fires] = hour;
        setting.fires++;
        log.fresh = false;
        return setting.fires;
    }

    public int back(int what) {
        if (!isWithin(what, 1)) {
            return BAD;
        }
        int there = what == 0 ? setting.butters : setting.fires;
        if (there == 0) {
            return NOT;
        }
        if (what == 0) {
            setting.butters--;
        } else {
            setting.fires--;
        }
        log.fresh = false;
        return there - 1;
    }

    public int read(int s) {
        if (!isSheet(s)) {
            return BAD;
        }
        if (sheets[s].isLost()) {
            return found(NULL);
        }
        int taken = 0;
        for (int i = 0; i + 1 < sheets[s].size; i += 2) {
            if (butter(sheets[s].items[i], sheets[s].items[i + 1]) < 0) {
                break;
            }
            taken++;
        }
        return taken;
    }

    // ---- hours

    public int heat(int hour, int slice) {
        if (!isHour(hour) || !isSlice(slice)) {
            return BAD;
        }
        log.bringUpToDate();
        return log.heat[hour * MOST_SLICES + slice];
    }

    public int state(int hour, int slice) {
        if (!isHour(hour) || !isSlice(slice)) {
            return BAD;
        }
        log.bringUpToDate();
        return log.is[hour * MOST_SLICES + slice];
    }

    public int held(int hour) {
        if (!isHour(hour)) {
            return BAD;
        }
        log.bringUpToDate();
        return log.held[hour];
    }

    public int freed(int slice, int what) {
        if (!isSlice(slice) || !isWithin(what, 1)) {
            return BAD;
        }
        log.bringUpToDate();
        return what == 0 ? log.course.first[slice] : log.course.times[slice];
    }

    public int spoilt() {
        log.bringUpToDate();
        int bits = 0;
        for (int slice = 0; slice < setting.slices; slice++) {
            if (log.course.is[slice] == SOFTENED) {
                bits |= 1 << slice;
            }
        }
        return bits;
    }

    public int quiet() {
        log.bringUpToDate();
        for (int hour = 0; hour < HOURS; hour++) {
            if (log.held[hour] == 0 && log.leastLeaning(hour) == NONE) {
                return hour;
            }
        }
        return NONE;
    }

    public int crowd(int what) {
        if (!isWithin(what, 1)) {
            return BAD;
        }
        log.bringUpToDate();
        for (int hour = 0; hour < HOURS; hour++) {
            int least = log.leastLeaning(hour);
            if (least != NONE) {
                return what == 0 ? hour : least;
            }
        }
        return NONE;
    }

    // ---- plans

    public int move(int slice, int what) {
        if (!isSlice(slice) || !isWithin(what, 1)) {
            return BAD;
        }
        plans.findMove(slice);
        return what == 0 ? plans.moveSlot : plans.moveHour;
    }

    public int swap(int what) {
        if (!isWithin(what, 2)) {
            return BAD;
        }
        plans.findSwap();
        if (what == 0) {
            return plans.swapFirst;
        }
        return what == 1 ? plans.swapOther : plans.swapStay;
    }

    public int line(int slice) {
        return isSlice(slice) ? plans.firstButterHour(slice) : BAD;
    }

    public int bear() {
        return plans.greatestSummer();
    }

    // ---- seen, windows, others

    public int seen(int hour, int slice, int state) {
        if (!isHour(hour) || !isWithin(slice, MOST_SLICES - 1) || !isWithin(state, STATES - 1)) {
            return BAD;
        }
        if (sightings.size >= MOST_SEEN) {
            return FULL;
        }
        sightings.add(hour, slice, state);
        return sightings.size;
    }

    public int forget() {
        int had = sightings.size;
        sightings.size = 0;
        return had;
    }

    public int heats(int slice, int i) {
        if (!isSlice(slice) || i < NONE || i >= HEATS) {
            return BAD;
        }
        guesses.findHeats(slice);
        return guesses.heatAt(i);
    }

    public int slots(int slice) {
        return isSlice(slice) ? guesses.slotsOf(slice) : BAD;
    }

    public int ask(int hour) {
        return isHour(hour) ? guesses.nextToTouch(hour) : BAD;
    }

    public long window(int c, int last, int slice, int hour, int what) {
        if (!isWithin(c, 16) || !isWithin(last, Window.LAST) || !isSlice(slice) || !isHour(hour) || !isWithin(what, 1)) {
            return LEAST_LONG - BAD;
        }
        window.weigh(c, last, slice, hour);
        return what == 0 ? window.above : window.below;
    }

    public int others(int seed, int what) {
        if (!isWithin(what, 1)) {
            return BAD;
        }
        others.draw(seed);
        return what == 0 ? others.free : others.soft;
    }

    // ---- sheets

    public int sheet(int s, int form, int n) {
        if (!isSheet(s) || !isForm(form) || n > MOST_ITEMS) {
            return BAD;
        }
        if (n < 0) {
            return found(SIZE);
        }
        sheets[s].renew(form, n);
        return n;
    }

    public int lose(int s) {
        if (!isSheet(s)) {
            return BAD;
        }
        if (sheets[s].isLost()) {
            return found(NULL);
        }
        int had = sheets[s].size;
        sheets[s].renew(Sheet.LOST, 0);
        return had;
    }

    public int lay(int s, int form, int i, int v) {
        if (!isSheet(s) || !isForm(form)) {
            return BAD;
        }
        int wrong = findingAt(s, form, i);
        if (wrong != 0) {
            return found(wrong);
        }
        sheets[s].put(i, v);
        return 1;
    }

    public int get(int s, int form, int i) {
        if (!isSheet(s) || !isForm(form)) {
            return LEAST_INT;
        }
        int wrong = findingAt(s, form, i);
        if (wrong != 0) {
            finding = wrong;
            return LEAST_INT;
        }
        return sheets[s].items[i];
    }

    public int copy(int s, int i, int t, int j, int n) {
        if (!isSheet(s) || !isSheet(t)) {
            return BAD;
        }
        Sheet from = sheets[s];
        Sheet to = sheets[t];
        if (from.isLost() || to.isLost()) {
            return found(NULL);
        }
        if (from.form != to.form) {
            return found(STORE);
        }
        if (!from.hasRun(i, n) || !to.hasRun(j, n)) {
            return found(INDEX);
        }
        System.arraycopy(from.items, i, to.items, j, n);
        return 1;
    }

    public int write(int hour, int s) {
        if (!isHour(hour) || !isSheet(s)) {
            return BAD;
        }
        if (sheets[s].isLost()) {
            return found(NULL);
        }
        log.bringUpToDate();
        int many = Math.min(sheets[s].size, setting.slices);
        for (int slice = 0; slice < many; slice++) {
            sheets[s].put(slice, log.heat[hour * MOST_SLICES + slice]);
        }
        return many;
    }

    public int count(int what) {
        switch (what) {
            case 0: return setting.slots;
            case 1: return setting.slices;
            case 2: return texts[RACK].size;
            case 3: return texts[BREAD].size;
            case 4: return setting.butters;
            case 5: return setting.fires;
            case 6: return timesLetGo();
            case 7: return sightings.size;
            case 8: return finding;
            default: return BAD;
        }
    }

    public long digest() {
        long h = 17;
        for (int what = 0; what <= 7; what++) {
            h = mix(h, count(what));
        }
        h = mix(h, fault(RACK));
        h = mix(h, fault(BREAD));
        for (int slot = 0; slot < setting.slots; slot++) {
            h = mix(h, setting.draws[slot]);
        }
        for (int slice = 0; slice < setting.slices; slice++) {
            h = mixTold(h, slice);
            h = mixFound(h, slice);
        }
        h = mix(h, held(5));
        h = mix(h, spoilt());
        h = mix(h, quiet());
        h = mix(h, crowd(0));
        h = mix(h, crowd(1));
        plans.findSwap();
        h = mix(h, plans.swapFirst);
        h = mix(h, plans.swapOther);
        h = mix(h, plans.swapStay);
        h = mix(h, bear());
        h = mix(h, ask(5));
        others.draw(7);
        h = mix(h, others.free);
        return mix(h, others.soft);
    }

    // ---- what the calls share

    private static long mix(long h, long v) {
        return 31 * h + v;
    }

    private long mixTold(long h, int slice) {
        long mixed = h;
        for (int what = 0; what <= 2; what++) {
            mixed = mix(mixed, slice(slice, what));
        }
        for (int hour : DIGEST_HOURS) {
            mixed = mix(mix(mixed, heat(hour, slice)), state(hour, slice));
        }
        mixed = mix(mixed, freed(slice, 0));
        return mix(mixed, freed(slice, 1));
    }

    /** Each search is made once for all that it finds: asked for call by call, it would be made twice. */
    private long mixFound(long h, int slice) {
        plans.findMove(slice);
        long mixed = mix(mix(h, plans.moveSlot), plans.moveHour);
        mixed = mix(mixed, plans.firstButterHour(slice));
        guesses.findHeats(slice);
        mixed = mix(mix(mixed, guesses.heatAt(NONE)), guesses.heatAt(0));
        mixed = mix(mixed, guesses.slotsOf(slice));
        window.weigh(5, 5, slice, 9);
        return mix(mix(mixed, window.above), window.below);
    }

    private int timesLetGo() {
        log.bringUpToDate();
        int times = 0;
        for (int slice = 0; slice < setting.slices; slice++) {
            times += log.course.times[slice];
        }
        return times;
    }

    private void learn(int text) {
        if (text == RACK) {
            setting.takeRack(texts[RACK]);
        } else {
            setting.takeSlices(texts[BREAD]);
        }
        log.fresh = false;
    }

    private int found(int number) {
        finding = number;
        return -10 - number;
    }

    private int findingAt(int s, int form, int i) {
        if (sheets[s].isLost()) {
            return NULL;
        }
        if (sheets[s].form != form) {
            return CAST;
        }
        return isWithin(i, sheets[s].size - 1) ? 0 : INDEX;
    }

    private static boolean isWithin(int v, int greatest) {
        return v >= 0 && v <= greatest;
    }

    private static boolean isText(int text) {
        return text == RACK || text == BREAD;
    }

    private static boolean isHour(int hour) {
        return isWithin(hour, HOURS - 1);
    }

    private boolean isSlice(int slice) {
        return isWithin(slice, setting.slices - 1);
    }

    private static boolean isSheet(int s) {
        return isWithin(s, SHEETS - 1);
    }

    private static boolean isForm(int form) {
        return isWithin(form, FORMS - 1);
    }

    private static boolean isFigure(int b) {
        return b >= '0' && b <= '9';
    }

    /** The bytes that were typed, well or not. */
    private static final class Text {
        private final int[] bytes;
        private int size = 0;

        private Text(int most) {
            bytes = new int[Math.max(most, 0)];
        }

        private int faultAsRack() {
            for (int place = 0; place < size; place++) {
                if (!isFigure(bytes[place])) {
                    return place;
                }
            }
            return NONE;
        }

        private int faultAsSlices() {
            for (int place = 0; place < size; place++) {
                if (!goesOn(place % SLICE_BYTES, bytes[place])) {
                    return place;
                }
            }
            return size == 0 || size % SLICE_BYTES == SLICE_BYTES - 1 ? NONE : size;
        }

        private static boolean goesOn(int part, int b) {
            if (part == 0) {
                return kindOf(b) != NO_KIND;
            }
            return part == SLICE_BYTES - 1 ? b == ';' : isFigure(b);
        }

        private static int kindOf(int b) {
            switch (b) {
                case 'w': return WHITE;
                case 'c': return CRUST;
                case 'b': return BURNT;
                case 't': return TRIANGLE;
                default: return NO_KIND;
            }
        }
    }

    /** All that the hours come out of; searches change it for a while and put it back. */
    private static final class Setting {
        private int slots = 0;
        private final int[] draws = new int[MOST_SLOTS];
        private int slices = 0;
        private final int[] kind = new int[MOST_SLICES];
        private final int[] heat = new int[MOST_SLICES];
        private final int[] slot = new int[MOST_SLICES];
        private final int[] rule = {10, 0, 40};
        private int butters = 0;
        private final int[] butterHour = new int[MOST_BUTTERS];
        private final int[] butterSlice = new int[MOST_BUTTERS];
        private int fires = 0;
        private final int[] fireHour = new int[MOST_FIRES];

        private void takeRack(Text text) {
            slots = text.faultAsRack() == NONE ? Math.min(text.size, MOST_SLOTS) : 0;
            for (int i = 0; i < slots; i++) {
                draws[i] = text.bytes[i] - '0';
            }
        }

        private void takeSlices(Text text) {
            // the last slice has no ; behind it, so one byte more makes all of them whole
            int whole = text.faultAsSlices() == NONE ? (text.size + 1) / SLICE_BYTES : 0;
            slices = Math.min(whole, MOST_SLICES);
            for (int i = 0; i < slices; i++) {
                int place = i * SLICE_BYTES;
                kind[i] = Text.kindOf(text.bytes[place]);
                heat[i] = (text.bytes[place + 1] - '0') * 10 + text.bytes[place + 2] - '0';
                slot[i] = text.bytes[place + 3] - '0';
            }
        }

        private int firesIn(int hour) {
            int many = 0;
            for (int i = 0; i < fires; i++) {
                if (fireHour[i] == hour) {
                    many++;
                }
            }
            return many;
        }
    }

    /** One going through of the hours: how all is behind the hour that passed last. */
    private static final class Course {
        private final Setting setting;
        private final int[] heat = new int[MOST_SLICES];
        private final int[] is = new int[MOST_SLICES];
        private final int[] came = new int[MOST_SLICES];
        /** The hour in which each was let go last; of one that never was it says nothing. */
        private final int[] left = new int[MOST_SLICES];
        private final int[] first = new int[MOST_SLICES];
        private final int[] times = new int[MOST_SLICES];
        /** How hot each slot is for those beside it, slot 0 at 1: so that both ends have a cold one beside them. */
        private final int[] warmth = new int[MOST_SLOTS + 2];
        private int held = 0;

        private Course(Setting setting) {
            this.setting = setting;
        }

        private void begin() {
            held = 0;
            for (int i = 0; i < setting.slices; i++) {
                heat[i] = setting.heat[i];
                came[i] = setting.heat[i];
                is[i] = LEANS;
                first[i] = NONE;
                times[i] = 0;
            }
        }

        private void goThrough() {
            begin();
            for (int hour = 0; hour < HOURS; hour++) {
                untilButters(hour);
                fromButters(hour, 0);
            }
        }

        /** An hour of another course, in this one: the other stays as it was. */
        private void follow(Course other, int hour, int more) {
            System.arraycopy(other.heat, 0, heat, 0, MOST_SLICES);
            System.arraycopy(other.is, 0, is, 0, MOST_SLICES);
            System.arraycopy(other.came, 0, came, 0, MOST_SLICES);
            System.arraycopy(other.left, 0, left, 0, MOST_SLICES);
            System.arraycopy(other.first, 0, first, 0, MOST_SLICES);
            System.arraycopy(other.times, 0, times, 0, MOST_SLICES);
            held = other.held;
            untilButters(hour);
            fromButters(hour, more);
        }

        private void untilButters(int hour) {
            comeAgain(hour);
            takePlaces();
            warm(setting.firesIn(hour));
        }

        private void fromButters(int hour, int more) {
            spread(hour);
            feelWarmth();
            for (int i = 0; i < setting.slices; i++) {
                if (isIn(i)) {
                    heat[i] = Math.max(0, heat[i] - cooling(i, more));
                    if (heat[i] <= setting.rule[COLD]) {
                        letGo(i, hour);
                    }
                }
            }
        }

        private boolean isIn(int i) {
            return is[i] == LEANS || is[i] == STANDS;
        }

        private int howManyIn() {
            int many = 0;
            for (int i = 0; i < setting.slices; i++) {
                if (isIn(i)) {
                    many++;
                }
            }
            return many;
        }

        private void comeAgain(int hour) {
            for (int i = 0; i < setting.slices; i++) {
                if (is[i] == FREE && setting.kind[i] == CRUST && left[i] == hour - 3 && came[i] / 2 > setting.rule[COLD]) {
                    came[i] = came[i] / 2;
                    heat[i] = came[i];
                    is[i] = LEANS;
                }
            }
        }

        private void takePlaces() {
            for (int i = 0; i < setting.slices; i++) {
                int slot = setting.slot[i];
                if (is[i] == LEANS && slot < setting.slots && (held >> slot & 1) == 0) {
                    is[i] = STANDS;
                    held |= 1 << slot;
                }
            }
        }

        private void warm(int fires) {
            if (fires == 0) {
                return;
            }
            for (int i = 0; i < setting.slices; i++) {
                if (is[i] == STANDS) {
                    heat[i] = Math.min(HOTTEST, heat[i] + 20 * fires);
                }
            }
        }

        private void spread(int hour) {
            for (int k = 0; k < setting.butters; k++) {
                int i = setting.butterSlice[k];
                if (setting.butterHour[k] == hour && i < setting.slices && isIn(i) && heat[i] > setting.rule[SOFT]) {
                    leave(i, SOFTENED);
                }
            }
        }

        private void leave(int i, int as) {
            if (is[i] == STANDS) {
                held &= ~(1 << setting.slot[i]);
            }
            is[i] = as;
        }

        /** All cool at once, so what is felt beside one is told before any has cooled. */
        private void feelWarmth() {
            int places = Math.min(setting.slots + 2, MOST_SLOTS + 2);
            for (int place = 0; place < places; place++) {
                warmth[place] = 0;
            }
            for (int i = 0; i < setting.slices; i++) {
                if (is[i] == STANDS) {
                    warmth[setting.slot[i] + 1] = heat[i];
                }
            }
        }

        private int cooling(int i, int more) {
            if (is[i] == LEANS) {
                return 1;
            }
            int slot = setting.slot[i];
            int kind = setting.kind[i];
            int by = setting.draws[slot] + more + 1 - setting.rule[SUMMER];
            if (kind != TRIANGLE && warmth[slot] > heat[i]) {
                by--;
            }
            if (kind != TRIANGLE && warmth[slot + 2] > heat[i]) {
                by--;
            }
            by = Math.max(0, by);
            if (kind == WHITE) {
                return by + 1;
            }
            return kind == BURNT ? by / 2 : by;
        }

        private void letGo(int i, int hour) {
            leave(i, FREE);
            left[i] = hour;
            times[i]++;
            if (first[i] == NONE) {
                first[i] = hour;
            }
        }
    }

    /** How all is behind each hour, as told: kept, since most calls ask for it. */
    private static final class Log {
        private final Setting setting;
        private final Course course;
        private final int[] heat = new int[HOURS * MOST_SLICES];
        private final int[] is = new int[HOURS * MOST_SLICES];
        private final int[] held = new int[HOURS];
        private boolean fresh = false;

        private Log(Setting setting) {
            this.setting = setting;
            course = new Course(setting);
        }

        private void bringUpToDate() {
            if (fresh) {
                return;
            }
            course.begin();
            for (int hour = 0; hour < HOURS; hour++) {
                course.untilButters(hour);
                course.fromButters(hour, 0);
                System.arraycopy(course.heat, 0, heat, hour * MOST_SLICES, MOST_SLICES);
                System.arraycopy(course.is, 0, is, hour * MOST_SLICES, MOST_SLICES);
                held[hour] = course.held;
            }
            fresh = true;
        }

        private int leastLeaning(int hour) {
            for (int slice = 0; slice < setting.slices; slice++) {
                if (is[hour * MOST_SLICES + slice] == LEANS) {
                    return slice;
                }
            }
            return NONE;
        }
    }

    /** What might be done: another slot, two that change, a butter, a summer. */
    private static final class Plans {
        private final Setting setting;
        private final Course course;
        private int moveSlot = NONE;
        private int moveHour = NONE;
        private int swapFirst = NONE;
        private int swapOther = NONE;
        private int swapStay = NONE;

        private Plans(Setting setting, Course course) {
            this.setting = setting;
            this.course = course;
        }

        private void findMove(int slice) {
            moveSlot = NONE;
            moveHour = NONE;
            int own = setting.slot[slice];
            int before = HOURS;
            for (int slot = 0; slot < setting.slots; slot++) {
                setting.slot[slice] = slot;
                int hour = letGoBefore(slice, before);
                if (hour != NONE) {
                    moveSlot = slot;
                    moveHour = hour;
                    before = hour;
                }
            }
            setting.slot[slice] = own;
        }

        private int letGoBefore(int slice, int before) {
            course.begin();
            for (int hour = 0; hour < before && course.first[slice] == NONE; hour++) {
                course.untilButters(hour);
                course.fromButters(hour, 0);
            }
            return course.first[slice];
        }

        private void findSwap() {
            swapFirst = NONE;
            swapOther = NONE;
            swapStay = NONE;
            int fewest = stayOfAll();
            for (int one = 0; one < setting.slices; one++) {
                for (int other = one + 1; other < setting.slices; other++) {
                    int stay = stayIfSwapped(one, other);
                    if (stay < fewest) {
                        fewest = stay;
                        swapFirst = one;
                        swapOther = other;
                        swapStay = stay;
                    }
                }
            }
        }

        private int stayIfSwapped(int one, int other) {
            changeSlots(one, other);
            int stay = stayOfAll();
            changeSlots(one, other);
            return stay;
        }

        private void changeSlots(int one, int other) {
            int slot = setting.slot[one];
            setting.slot[one] = setting.slot[other];
            setting.slot[other] = slot;
        }

        private int stayOfAll() {
            int stay = 0;
            course.begin();
            for (int hour = 0; hour < HOURS; hour++) {
                course.untilButters(hour);
                course.fromButters(hour, 0);
                stay += course.howManyIn();
            }
            return stay;
        }

        private int firstButterHour(int slice) {
            course.begin();
            for (int hour = 0; hour < HOURS; hour++) {
                course.untilButters(hour);
                if (course.isIn(slice) && course.heat[slice] <= setting.rule[SOFT]) {
                    return hour;
                }
                course.fromButters(hour, 0);
            }
            return NONE;
        }

        private int greatestSummer() {
            int own = setting.rule[SUMMER];
            int greatest = NONE;
            for (int summer = SUMMERS - 1; summer >= 0 && greatest == NONE; summer--) {
                setting.rule[SUMMER] = summer;
                course.goThrough();
                if (course.howManyIn() == 0) {
                    greatest = summer;
                }
            }
            setting.rule[SUMMER] = own;
            return greatest;
        }
    }

    /** All that was SEEN. */
    private static final class Sightings {
        private final Setting setting;
        private final int[] hours = new int[MOST_SEEN];
        private final int[] slices = new int[MOST_SEEN];
        private final int[] states = new int[MOST_SEEN];
        private int size = 0;

        private Sightings(Setting setting) {
            this.setting = setting;
        }

        private void add(int hour, int slice, int state) {
            if (size >= MOST_SEEN) {
                return;
            }
            hours[size] = hour;
            slices[size] = slice;
            states[size] = state;
            size++;
        }

        private int lastHour() {
            int last = NONE;
            for (int k = 0; k < size; k++) {
                last = Math.max(last, hours[k]);
            }
            return last;
        }

        private boolean agreeWith(Course course, int hour) {
            for (int k = 0; k < size; k++) {
                if (hours[k] == hour && !(slices[k] < setting.slices && course.is[slices[k]] == states[k])) {
                    return false;
                }
            }
            return true;
        }
    }

    /** What could have been, by all that was SEEN. */
    private static final class Guesses {
        private final Setting setting;
        private final Sightings sightings;
        private final Course course;
        private final int[] heats = new int[HEATS];
        private int heatsFound = 0;
        private final int[] noted = new int[MOST_SLICES];
        private final int[] tally = new int[MOST_SLICES * STATES];

        private Guesses(Setting setting, Sightings sightings, Course course) {
            this.setting = setting;
            this.sightings = sightings;
            this.course = course;
        }

        private void findHeats(int slice) {
            heatsFound = 0;
            int own = setting.heat[slice];
            for (int heat = 0; heat < HEATS; heat++) {
                setting.heat[slice] = heat;
                if (allComesOut(NONE)) {
                    heats[heatsFound] = heat;
                    heatsFound++;
                }
            }
            setting.heat[slice] = own;
        }

        /** The i-th that was found; for i = NONE, how many. */
        private int heatAt(int i) {
            if (i == NONE) {
                return heatsFound;
            }
            return i >= 0 && i < heatsFound ? heats[i] : NONE;
        }

        private int slotsOf(int slice) {
            int bits = 0;
            int own = setting.slot[slice];
            for (int slot = 0; slot < MOST_SLOTS; slot++) {
                setting.slot[slice] = slot;
                if (allComesOut(NONE)) {
                    bits |= 1 << slot;
                }
            }
            setting.slot[slice] = own;
            return bits;
        }

        private int nextToTouch(int hour) {
            for (int k = 0; k < MOST_SLICES * STATES; k++) {
                tally[k] = 0;
            }
            int own = setting.rule[SUMMER];
            for (int summer = 0; summer < SUMMERS; summer++) {
                setting.rule[SUMMER] = summer;
                if (allComesOut(hour)) {
                    tallyNoted();
                }
            }
            setting.rule[SUMMER] = own;
            return leastOfTheGreatest();
        }

        private void tallyNoted() {
            for (int slice = 0; slice < setting.slices; slice++) {
                tally[slice * STATES + noted[slice]]++;
            }
        }

        private int leastOfTheGreatest() {
            int best = NONE;
            int least = SUMMERS + 1;
            for (int slice = 0; slice < setting.slices; slice++) {
                int greatest = 0;
                for (int state = 0; state < STATES; state++) {
                    greatest = Math.max(greatest, tally[slice * STATES + state]);
                }
                if (greatest < least) {
                    least = greatest;
                    best = slice;
                }
            }
            return best;
        }

        /** Goes no further than it must: to the last that was SEEN, and to the hour (or NONE) to note states of. */
        private boolean allComesOut(int noteHour) {
            int last = Math.max(sightings.lastHour(), noteHour);
            course.begin();
            for (int hour = 0; hour <= last; hour++) {
                course.untilButters(hour);
                course.fromButters(hour, 0);
                if (!sightings.agreeWith(course, hour)) {
                    return false;
                }
                if (hour == noteHour) {
                    System.arraycopy(course.is, 0, noted, 0, MOST_SLICES);
                }
            }
            return true;
        }
    }

    /** A window that is open in an hour or not, by chance. */
    private static final class Window {
        private static final int LAST = 9, MORE = 3, SIXTEENTHS = 16, BITS = 4;

        /** Course k: how all is behind k hours of the branch that is looked at. */
        private final Course[] courses = new Course[LAST + 2];
        private int open = 0;
        private int hours = 0;
        private int slice = 0;
        private int until = 0;
        private long above = 0;
        private long below = 1;

        private Window(Setting setting) {
            for (int k = 0; k < LAST + 2; k++) {
                courses[k] = new Course(setting);
            }
        }

        private void weigh(int c, int last, int slice, int hour) {
            open = c;
            this.slice = slice;
            until = hour;
            // what the window does behind the hour that is asked for changes nothing
            hours = Math.min(Math.min(last, hour), LAST) + 1;
            courses[0].begin();
            above = ways(this, 0);
            below = 1L << BITS * hours;
            for (int i = 0; i < BITS * (LAST + 1) && below > 1 && (above & 1) == 0; i++) {
                above >>= 1;
                below >>= 1;
            }
        }

        /** Of 16 to the power of the hours still to come with a window: by how many the slice is let go in time. */
        private static long ways(Window window, int hour) {
            if (hour < 0 || hour > window.hours || hour > LAST + 1) {
                return 0;
            }
            Course course = window.courses[hour];
            if (course.first[window.slice] != NONE) {
                return 1L << BITS * (window.hours - hour);
            }
            if (course.is[window.slice] == SOFTENED) {
                return 0;
            }
            if (hour >= window.hours || hour > LAST) {
                return window.isLetGoFrom(hour) ? 1 : 0;
            }
            long all = 0;
            if (window.open > 0) {
                window.courses[hour + 1].follow(course, hour, MORE);
                all += window.open * ways(window, hour + 1);
            }
            if (window.open < SIXTEENTHS) {
                window.courses[hour + 1].follow(course, hour, 0);
                all += (SIXTEENTHS - window.open) * ways(window, hour + 1);
            }
            return all;
        }

        private boolean isLetGoFrom(int from) {
            Course course = courses[from];
            for (int hour = from; hour <= until && course.first[slice] == NONE; hour++) {
                course.untilButters(hour);
                course.fromButters(hour, 0);
            }
            return course.first[slice] != NONE;
        }
    }

    /** The same slices, as hot at first as a seed has it. */
    private static final class Others {
        private final Setting setting;
        private final Course course;
        private final int[] own = new int[MOST_SLICES];
        private int free = 0;
        private int soft = 0;

        private Others(Setting setting, Course course) {
            this.setting = setting;
            this.course = course;
        }

        private void draw(int seed) {
            System.arraycopy(setting.heat, 0, own, 0, MOST_SLICES);
            int next = seed;
            for (int slice = 0; slice < setting.slices; slice++) {
                next = 1103515245 * next + 12345;
                setting.heat[slice] = (next >>> 16) % HEATS;
            }
            course.goThrough();
            System.arraycopy(own, 0, setting.heat, 0, MOST_SLICES);
            free = howManyAre(FREE);
            soft = howManyAre(SOFTENED);
        }

        private int howManyAre(int state) {
            int many = 0;
            for (int slice = 0; slice < setting.slices; slice++) {
                if (course.is[slice] == state) {
                    many++;
                }
            }
            return many;
        }
    }

    /** A row of a FORM, or LOST; ints hold the items of every FORM, cut to its bits. */
    private static final class Sheet {
        private static final int LOST = -1, BYTES = 0, SHORTS = 1;

        private int form = LOST;
        private int size = 0;
        private final int[] items = new int[MOST_ITEMS];

        private boolean isLost() {
            return form == LOST;
        }

        private void renew(int newForm, int n) {
            form = newForm;
            size = n;
            for (int i = 0; i < MOST_ITEMS; i++) {
                items[i] = 0;
            }
        }

        private void put(int i, int v) {
            if (i < 0 || i >= size) {
                return;
            }
            if (form == BYTES) {
                items[i] = (byte) v;
            } else {
                items[i] = form == SHORTS ? (short) v : v;
            }
        }

        private boolean hasRun(int from, int n) {
            return from >= 0 && n >= 0 && from <= size && n <= size - from;
        }
    }
}
