import java.util.Arrays;
import java.util.NoSuchElementException;

/** Sessions out of events that come late; ../shared/DOC.md says what each call promises. */
public final class LateSessions {
    public static final int NONE = -1;

    /** Answers below NONE; the document says of each call what they mean. */
    private static final int MINUS_TWO = -2;
    private static final int MINUS_THREE = -3;

    private static final int MAX_SOURCES = 4;
    private static final int KEYS = 6;
    private static final int MAX_INPUTS = 160;
    private static final int MAX_TIME = 9999;
    private static final int MAX_MARK = 20000;
    private static final int MAX_VALUE = 99;
    private static final int MAX_DELAY = 999;
    private static final int MAX_GAP = 99;
    private static final int MAX_LATENESS = 99;
    private static final int MAX_EARLY = 9;
    private static final int MAX_PARTS = 60;
    private static final int MAX_DRAWN = 40;

    private static final int TEXT_ROOM = 80;
    private static final int ROW_ROOM = 6;
    private static final int UNDO_ROOM = 6;
    private static final int KEEP_ROOM = 2;
    private static final int MESSAGES_KEPT = 60;
    private static final int FINALS_KEPT = 40;

    private static final int SUM_SHIFT = 20000;
    private static final int MOST_SHIFT = 99;

    private static final int ON_TIME = 0;
    private static final int LATE = 1;
    private static final int DROPPED = 2;

    private static final int EARLY_RESULT = 0;
    private static final int ON_TIME_RESULT = 1;
    private static final int LATE_RESULT = 2;
    private static final int TAKEN_BACK = 3;
    private static final int KINDS = 4;

    private static final int SOURCE_MARK = 0;
    private static final int SOURCE_DELAY = 1;
    private static final int SOURCE_IDLE = 2;
    private static final int SOURCE_CAME = 3;
    private static final int SOURCE_DROPPED = 4;
    private static final int SOURCE_WIDTH = 5;

    private static final int SESSION_KEY = 0;
    private static final int SESSION_FIRST = 1;
    private static final int SESSION_LAST = 2;
    private static final int SESSION_COUNT = 3;
    private static final int SESSION_SUM = 4;
    private static final int SESSION_MOST = 5;
    /** The kind of the result that stands, or NONE. */
    private static final int SESSION_KIND = 6;
    private static final int SESSION_WIDTH = 7;

    private static final int MESSAGE_KIND = 0;
    private static final int MESSAGE_KEY = 1;
    private static final int MESSAGE_FIRST = 2;
    private static final int MESSAGE_LAST = 3;
    private static final int MESSAGE_COUNT = 4;
    private static final int MESSAGE_SUM = 5;
    private static final int MESSAGE_WIDTH = 6;

    private static final int INPUT_WHAT = 0;
    private static final int INPUT_SOURCE = 1;
    private static final int INPUT_TIME = 2;
    private static final int INPUT_KEY = 3;
    private static final int INPUT_VALUE = 4;
    /** ON_TIME, LATE or DROPPED of an event, else NONE. */
    private static final int INPUT_FATE = 5;
    /** By how much the event was behind progress as it came, 0 at least. */
    private static final int INPUT_BEHIND = 6;
    private static final int INPUT_WIDTH = 7;

    private static final int EVENT_INPUT = 0;
    private static final int MARK_INPUT = 1;
    private static final int IDLE_INPUT = 2;

    /** Columns 0 .. 3 of a key's row count its messages of each kind. */
    private static final int KEY_CLOSED = 4;
    private static final int KEY_COUNTS = 5;
    private static final int KEY_SUMS = 6;
    private static final int KEY_LONGEST = 7;
    private static final int KEY_WIDTH = 8;

    /** k a key's letter, d a digit, s + or -, n the digit of a source that there is. */
    private static final String EVENT_FORM = "kddddsddn";
    private static final int EVENT_SIGNS = 9;
    private static final String EVENT_ACT_FORM = "kddddsddd";
    private static final String MARK_ACT_FORM = "dddddd";
    private static final String IDLE_ACT_FORM = "d";

    private final World world;
    /** Where questions play what would be; its contents mean nothing between calls. */
    private final World trial;
    private final World[] undoWorlds;
    private int undoOldest;
    private int undoSize;
    private final World[] keptWorlds;
    private int keptBits;
    private final long[] told;
    private int toldSize;
    private final int[] text;
    private int textSize;
    /** Numbers of inputs, by time; filled anew by each call that uses it. */
    private final int[] byTime;
    /** How many holes have a width, those above MAX_GAP together; filled anew by each use. */
    private final int[] holes;

    public LateSessions() {
        world = new World();
        trial = new World();
        undoWorlds = new World[UNDO_ROOM];
        for (int i = 0; i < UNDO_ROOM; i++) {
            undoWorlds[i] = new World();
        }
        keptWorlds = new World[KEEP_ROOM];
        for (int i = 0; i < KEEP_ROOM; i++) {
            keptWorlds[i] = new World();
        }
        told = new long[ROW_ROOM];
        text = new int[TEXT_ROOM];
        byTime = new int[MAX_INPUTS];
        holes = new int[MAX_GAP + 2];
    }

    // ---- the text

    public int sign(int v) {
        if (textSize + 4 > TEXT_ROOM) {
            return NONE;
        }
        for (int shift = 24; shift >= 0; shift -= 8) {
            putSign((v >>> shift) & 255);
        }
        return textSize;
    }

    public boolean end(int n) {
        if (n < 0 || n > textSize) {
            return false;
        }
        textSize = n;
        return true;
    }

    // ---- what comes

    public int start(int n, int gap, int lateness, int early) {
        if (n < 1 || n > MAX_SOURCES || !areSettings(gap, lateness, early)) {
            return NONE;
        }
        remember();
        world.reset(n, gap, lateness, early);
        return n;
    }

    public int delays(int source, int v) {
        if (!isSource(source) || v < 0 || v > MAX_DELAY) {
            return NONE;
        }
        int was = world.sources.get(source, SOURCE_DELAY);
        if (was == v) {
            return MINUS_TWO;
        }
        if (world.inputs.size > 0) {
            return MINUS_THREE;
        }
        remember();
        world.sources.set(source, SOURCE_DELAY, v);
        return was;
    }

    public int event(int key, int time, int value, int source) {
        int refusal = eventRefusal(key, time, value, source);
        if (refusal < 0) {
            return refusal;
        }
        remember();
        int before = world.sentSize;
        int fate = world.comeEvent(key, time, value, source);
        tellTwo(world.sentSize - before, world.progress);
        return fate;
    }

    public int events() {
        int length = takeText();
        int misfit = eventsMisfit(length);
        if (misfit >= 0) {
            return -1 - misfit;
        }
        int coming = length / EVENT_SIGNS;
        if (world.inputs.size + coming > MAX_INPUTS) {
            return MINUS_THREE;
        }
        if (coming > 0) {
            remember();
        }
        int before = world.sentSize;
        int got = 0;
        for (int at = 0; at < length; at += EVENT_SIGNS) {
            if (comeEventAt(at) != DROPPED) {
                got++;
            }
        }
        tellTwo(world.sentSize - before, world.progress);
        return got;
    }

    public int marks(int source, int t) {
        int refusal = markRefusal(source, t);
        if (refusal < 0) {
            return refusal;
        }
        remember();
        int before = world.sentSize;
        world.comeMark(source, t);
        tellOne(world.progress);
        return world.sentSize - before;
    }

    public int idles(int source) {
        int refusal = idleRefusal(source);
        if (refusal < 0) {
            return refusal;
        }
        remember();
        int before = world.sentSize;
        world.comeIdle(source);
        tellOne(world.progress);
        return world.sentSize - before;
    }

    // ---- what there is

    public int source(int source, int what) throws NoSuchElementException {
        if (!isSource(source) || what < 0 || what > 5) {
            throw new NoSuchElementException();
        }
        if (what < SOURCE_WIDTH) {
            return world.sources.get(source, what);
        }
        int more = world.sources.get(source, SOURCE_MARK) - world.progress;
        return more < 0 ? NONE : more;
    }

    public int session(int i, int what) throws NoSuchElementException {
        if (i < 0 || i >= world.sessions.size || what < 0 || what > 7) {
            throw new NoSuchElementException();
        }
        if (what == 6) {
            return world.isRipe(i, world.progress) ? 1 : 0;
        }
        if (what == 7) {
            return world.hasResult(i) ? 1 : 0;
        }
        return shifted(world.sessions, i, what);
    }

    public int at(int key, int time) {
        if (!isKey(key) || !isTime(time)) {
            return NONE;
        }
        int first = world.firstTouched(key, time);
        if (first < 0) {
            return MINUS_TWO;
        }
        tellOne(world.touchedFrom(first, key, time));
        return first;
    }

    public int message(int i, int what) throws NoSuchElementException {
        boolean kept = isOfLatest(i, world.sentSize, MESSAGES_KEPT);
        if (!kept || what < 0 || what >= MESSAGE_WIDTH) {
            throw new NoSuchElementException();
        }
        int cell = world.messages.get(i % MESSAGES_KEPT, what);
        return what == MESSAGE_SUM ? cell + SUM_SHIFT : cell;
    }

    public int sent(int kind) {
        if (kind < 0 || kind >= KINDS) {
            return NONE;
        }
        tellOne(world.sentSize);
        return world.sentOf(kind);
    }

    public int stands() {
        int standing = 0;
        int counts = 0;
        int sums = 0;
        for (int key = 0; key < KEYS; key++) {
            standing += world.keys.get(key, KEY_CLOSED);
            counts += world.keys.get(key, KEY_COUNTS);
            sums += world.keys.get(key, KEY_SUMS);
        }
        for (int i = 0; i < world.sessions.size; i++) {
            if (world.hasResult(i)) {
                standing++;
                counts += world.sessions.get(i, SESSION_COUNT);
                sums += world.sessions.get(i, SESSION_SUM);
            }
        }
        tellTwo(counts, sums);
        return standing;
    }

    public int closed(int key) {
        if (!isKey(key)) {
            return NONE;
        }
        tellThree(world.keys.get(key, KEY_COUNTS), world.keys.get(key, KEY_SUMS),
                world.keys.get(key, KEY_LONGEST));
        return world.keys.get(key, KEY_CLOSED);
    }

    public int finals(int i, int what) throws NoSuchElementException {
        boolean kept = isOfLatest(i, world.closedSize, FINALS_KEPT);
        if (!kept || what < 0 || what >= SESSION_WIDTH) {
            throw new NoSuchElementException();
        }
        return shifted(world.finals, i % FINALS_KEPT, what);
    }

    public int kinds(int key) {
        if (!isKey(key)) {
            return NONE;
        }
        int together = 0;
        tellNothing();
        for (int kind = 0; kind < KINDS; kind++) {
            int ofKind = world.keys.get(key, kind);
            together += ofKind;
            tellMore(ofKind);
        }
        int standing = world.keys.get(key, KEY_CLOSED);
        for (int i = 0; i < world.sessions.size; i++) {
            if (world.sessions.get(i, SESSION_KEY) == key && world.hasResult(i)) {
                standing++;
            }
        }
        tellMore(standing);
        return together;
    }

    public int slow() {
        int slowest = NONE;
        int most = 0;
        for (int source = 0; source < world.sources.size; source++) {
            int rise = world.leastMark(source) - world.progress;
            if (rise > most) {
                most = rise;
                slowest = source;
            }
        }
        if (slowest < 0) {
            return MINUS_TWO;
        }
        tellTwo(most, world.ripening(world.progress + most));
        return slowest;
    }

    public int span(int from, int to) {
        if (!isTime(from) || !isTime(to) || to < from) {
            return NONE;
        }
        int values = 0;
        int together = 0;
        int mostKey = NONE;
        int most = 0;
        for (int key = 0; key < KEYS; key++) {
            int ofKey = 0;
            for (int i = 0; i < world.inputs.size; i++) {
                int time = world.inputs.get(i, INPUT_TIME);
                if (world.isTakenOf(i, key) && time >= from && time <= to) {
                    ofKey++;
                    values += world.inputs.get(i, INPUT_VALUE);
                }
            }
            together += ofKey;
            if (ofKey > most) {
                most = ofKey;
                mostKey = key;
            }
        }
        tellThree(values, mostKey, most);
        return together;
    }

    public int taken() {
        tellThree(world.lateSize, world.droppedSize, world.meltedSize);
        return world.takenSize;
    }

    public int holds() {
        int least = world.leastMark(NONE);
        int bits = 0;
        int greatest = 0;
        for (int source = 0; source < world.sources.size; source++) {
            int mark = world.sources.get(source, SOURCE_MARK);
            greatest = Math.max(greatest, mark);
            if (world.sources.get(source, SOURCE_IDLE) == 0 && mark == least) {
                bits |= 1 << source;
            }
        }
        tellTwo(least, greatest - world.progress);
        return bits;
    }

    public int next() {
        int found = NONE;
        int least = 0;
        for (int i = 0; i < world.sessions.size; i++) {
            int last = world.sessions.get(i, SESSION_LAST);
            if (!world.isRipe(i, world.progress) && (found < 0 || last < least)) {
                found = i;
                least = last;
            }
        }
        if (found < 0) {
            return MINUS_TWO;
        }
        tellOne(least + world.gap + 1 - world.progress);
        return found;
    }

    public int ahead(int p) {
        if (p < 0 || p > MAX_MARK) {
            return NONE;
        }
        if (p < world.progress) {
            return MINUS_TWO;
        }
        int closing = 0;
        for (int i = 0; i < world.sessions.size; i++) {
            if (world.isOver(i, p)) {
                closing++;
            }
        }
        tellOne(closing);
        return world.ripening(p);
    }

    public int would(int key, int time, int value, int source) {
        if (!isEvent(key, time, value, source)) {
            return NONE;
        }
        int first = world.firstTouched(key, time);
        trial.copyFrom(world);
        int fate = trial.playEvent(key, time, value, source);
        int melting = fate == DROPPED ? 0 : world.touchedFrom(first, key, time);
        tellTwo(melting, trial.sentSize - world.sentSize);
        return fate;
    }

    // ---- all that came

    public int batch(int key) {
        if (!isKey(key)) {
            return NONE;
        }
        int n = sortTaken(key);
        int falls = 0;
        int mostCount = NONE;
        int mostSum = NONE;
        int widest = NONE;
        int count = 0;
        int sum = 0;
        for (int k = 0; k < n; k++) {
            count++;
            sum += sortedCell(k, INPUT_VALUE);
            int hole = k + 1 < n ? holeBehind(k) : MAX_MARK;
            if (hole <= world.gap) {
                continue;
            }
            mostSum = falls == 0 ? sum : Math.max(mostSum, sum);
            mostCount = Math.max(mostCount, count);
            if (k + 1 < n) {
                widest = Math.max(widest, hole);
            }
            falls++;
            count = 0;
            sum = 0;
        }
        tellThree(mostCount, mostSum, widest);
        return falls;
    }

    public int latest() {
        int most = 0;
        int found = NONE;
        for (int i = 0; i < world.inputs.size; i++) {
            int behind = world.inputs.get(i, INPUT_BEHIND);
            if (behind > most) {
                most = behind;
                found = i;
            }
        }
        tellOne(found);
        return most;
    }

    public int parts(int key, int n) {
        if (!isKey(key) || n < 1 || n > MAX_PARTS) {
            return NONE;
        }
        int sorted = sortTaken(key);
        if (sorted == 0) {
            return MINUS_TWO;
        }
        Arrays.fill(holes, 0);
        for (int k = 0; k + 1 < sorted; k++) {
            int width = Math.min(holeBehind(k), MAX_GAP + 1);
            if (width >= 0 && width < holes.length) {
                holes[width]++;
            }
        }
        int falls = 1;
        for (int gap = MAX_GAP; gap >= 1; gap--) {
            falls += gap + 1 < holes.length ? holes[gap + 1] : 0;
            if (falls >= n) {
                return gap;
            }
        }
        return MINUS_TWO;
    }

    public int again(int gap, int lateness, int early) {
        if (!areSettings(gap, lateness, early)) {
            return NONE;
        }
        replay(gap, lateness, early, NONE);
        tellNothing();
        for (int kind = 0; kind < KINDS; kind++) {
            tellMore(trial.sentOf(kind));
        }
        tellMore(trial.sessions.size);
        tellMore(trial.closedSize);
        return trial.droppedSize;
    }

    public int without(int source) {
        if (!isSource(source)) {
            return NONE;
        }
        if (world.sources.size == 1) {
            return MINUS_TWO;
        }
        replay(world.gap, world.lateness, world.early, source);
        tellThree(trial.droppedSize, trial.sessions.size, trial.closedSize);
        return trial.progress;
    }

    public int input(int i, int what) throws NoSuchElementException {
        if (i < 0 || i >= world.inputs.size || what < 0 || what > INPUT_KEY) {
            throw new NoSuchElementException();
        }
        return world.inputs.get(i, what);
    }

    // ---- days, undone, kept

    public int day() {
        int length = takeText();
        int misfit = dayMisfit(length);
        if (misfit >= 0) {
            return -1 - misfit;
        }
        int before = world.sentSize;
        int done = 0;
        int failed = 0;
        int at = 0;
        for (int acts = 0; acts < TEXT_ROOM && at < length; acts++) {
            if (actRefusal(at) < 0) {
                failed = 1;
                break;
            }
            if (done == 0) {
                remember();
            }
            comeAct(at);
            done++;
            at += 1 + actForm(at).length();
        }
        tellTwo(failed, world.sentSize - before);
        return done;
    }

    public int undo() {
        if (undoSize == 0) {
            return NONE;
        }
        undoSize--;
        world.copyFrom(undoWorlds[(undoOldest + undoSize) % UNDO_ROOM]);
        return undoSize;
    }

    public int years(int seed, int n) {
        if (n < 1 || n > MAX_DRAWN) {
            return NONE;
        }
        trial.copyFrom(world);
        int coming = Math.min(n, MAX_INPUTS - world.inputs.size);
        int sources = Math.max(1, world.sources.size);
        int drawn = seed;
        for (int i = 0; i < coming; i++) {
            drawn = drawAfter(drawn);
            int key = drawOf(drawn, KEYS);
            drawn = drawAfter(drawn);
            int time = trial.progress - trial.lateness + drawOf(drawn, 100);
            drawn = drawAfter(drawn);
            int value = drawOf(drawn, 199) - MAX_VALUE;
            drawn = drawAfter(drawn);
            int source = drawOf(drawn, sources);
            trial.playEvent(key, Math.max(0, Math.min(MAX_TIME, time)), value, source);
        }
        tellTwo(trial.sentSize - world.sentSize, trial.progress);
        return trial.takenSize - world.takenSize;
    }

    public boolean keep(int i) {
        if (i < 0 || i >= KEEP_ROOM) {
            return false;
        }
        World kept = keptWorlds[i];
        if (kept == null) {
            return false;
        }
        kept.copyFrom(world);
        keptBits |= 1 << i;
        return true;
    }

    public boolean back(int i) {
        if (i < 0 || i >= KEEP_ROOM || (keptBits & (1 << i)) == 0) {
            return false;
        }
        world.copyFrom(keptWorlds[i]);
        undoSize = 0;
        return true;
    }

    public int count(int what) {
        switch (what) {
            case 0: return world.sources.size;
            case 1: return world.gap;
            case 2: return world.lateness;
            case 3: return world.early;
            case 4: return world.progress;
            case 5: return world.sessions.size;
            case 6: return world.inputs.size;
            case 7: return world.sentSize;
            case 8: return undoSize;
            case 9: return toldSize;
            case 10: return textSize;
            default: return NONE;
        }
    }

    public long row(int i) throws NoSuchElementException {
        if (i < 0 || i >= toldSize || i >= told.length) {
            throw new NoSuchElementException();
        }
        return told[i];
    }

    // ---- what may be told to the calls

    private static boolean isKey(int key) {
        return key >= 0 && key < KEYS;
    }

    private static boolean isTime(int time) {
        return time >= 0 && time <= MAX_TIME;
    }

    private boolean isSource(int source) {
        return source >= 0 && source < world.sources.size;
    }

    private boolean isEvent(int key, int time, int value, int source) {
        return isKey(key) && isTime(time) && value >= -MAX_VALUE && value <= MAX_VALUE
                && isSource(source);
    }

    private static boolean areSettings(int gap, int lateness, int early) {
        return gap >= 1 && gap <= MAX_GAP && lateness >= 0 && lateness <= MAX_LATENESS
                && early >= 0 && early <= MAX_EARLY;
    }

    private int eventRefusal(int key, int time, int value, int source) {
        if (!isEvent(key, time, value, source)) {
            return NONE;
        }
        return inputRefusal();
    }

    private int markRefusal(int source, int t) {
        if (!isSource(source) || t < 0 || t > MAX_MARK) {
            return NONE;
        }
        if (world.sources.get(source, SOURCE_MARK) >= t) {
            return MINUS_TWO;
        }
        return inputRefusal();
    }

    private int idleRefusal(int source) {
        if (!isSource(source)) {
            return NONE;
        }
        if (world.sources.get(source, SOURCE_IDLE) != 0) {
            return MINUS_TWO;
        }
        return inputRefusal();
    }

    private int inputRefusal() {
        return world.inputs.size >= MAX_INPUTS ? MINUS_THREE : 0;
    }

    private static boolean isOfLatest(int i, int size, int kept) {
        return i >= 0 && i < size && i >= size - kept;
    }

    /** Sums and values may be below 0; they are told so that they can't be. */
    private static int shifted(Table rows, int i, int what) {
        int cell = rows.get(i, what);
        if (what == SESSION_SUM) {
            return cell + SUM_SHIFT;
        }
        return what == SESSION_MOST ? cell + MOST_SHIFT : cell;
    }

    // ---- the row

    private void tellNothing() {
        toldSize = 0;
    }

    private void tellMore(long number) {
        if (toldSize < told.length) {
            told[toldSize] = number;
            toldSize++;
        }
    }

    private void tellOne(long first) {
        tellNothing();
        tellMore(first);
    }

    private void tellTwo(long first, long second) {
        tellOne(first);
        tellMore(second);
    }

    private void tellThree(long first, long second, long third) {
        tellTwo(first, second);
        tellMore(third);
    }

    // ---- reading the text

    private void putSign(int code) {
        if (textSize < text.length) {
            text[textSize] = code;
            textSize++;
        }
    }

    /** Empties the text; its signs can still be read till the next sign comes. */
    private int takeText() {
        int length = textSize;
        textSize = 0;
        return length;
    }

    private int signAt(int i) {
        return i >= 0 && i < text.length ? text[i] : NONE;
    }

    private boolean fits(int code, char form) {
        switch (form) {
            case 'k': return code >= 'a' && code < 'a' + KEYS;
            case 's': return code == '+' || code == '-';
            case 'n': return code >= '0' && code < '0' + world.sources.size;
            default: return code >= '0' && code <= '9';
        }
    }

    /** The first place that is not as the form says, or NONE. */
    private int formMisfit(int from, int length, String form) {
        for (int k = 0; k < form.length(); k++) {
            if (from + k >= length || !fits(signAt(from + k), form.charAt(k))) {
                return from + k;
            }
        }
        return NONE;
    }

    private int eventsMisfit(int length) {
        for (int at = 0; at < length; at += EVENT_SIGNS) {
            int misfit = formMisfit(at, length, EVENT_FORM);
            if (misfit >= 0) {
                return misfit;
            }
        }
        return NONE;
    }

    private int dayMisfit(int length) {
        int at = 0;
        for (int acts = 0; acts < TEXT_ROOM && at < length; acts++) {
            String form = actForm(at);
            if (form.isEmpty()) {
                return at;
            }
            int misfit = formMisfit(at + 1, length, form);
            if (misfit >= 0) {
                return misfit;
            }
            at += 1 + form.length();
        }
        return NONE;
    }

    /** What comes behind an act's letter; empty, if there is no such act. */
    private String actForm(int at) {
        switch (signAt(at)) {
            case 'e': return EVENT_ACT_FORM;
            case 'm': return MARK_ACT_FORM;
            case 'i': return IDLE_ACT_FORM;
            default: return "";
        }
    }

    private int numberAt(int from, int digits) {
        int number = 0;
        for (int k = 0; k < digits; k++) {
            number = number * 10 + signAt(from + k) - '0';
        }
        return number;
    }

    private int keyAt(int at) {
        return signAt(at) - 'a';
    }

    private int valueAt(int at) {
        int size = numberAt(at + 1, 2);
        return signAt(at) == '-' ? -size : size;
    }

    private int comeEventAt(int at) {
        return world.comeEvent(keyAt(at), numberAt(at + 1, 4), valueAt(at + 5),
                numberAt(at + 8, 1));
    }

    private int actRefusal(int at) {
        switch (signAt(at)) {
            case 'e':
                return eventRefusal(keyAt(at + 1), numberAt(at + 2, 4), valueAt(at + 6),
                        numberAt(at + 9, 1));
            case 'm':
                return markRefusal(numberAt(at + 1, 1), numberAt(at + 2, 5));
            default:
                return idleRefusal(numberAt(at + 1, 1));
        }
    }

    private void comeAct(int at) {
        switch (signAt(at)) {
            case 'e':
                world.comeEvent(keyAt(at + 1), numberAt(at + 2, 4), valueAt(at + 6),
                        numberAt(at + 9, 1));
                break;
            case 'm':
                world.comeMark(numberAt(at + 1, 1), numberAt(at + 2, 5));
                break;
            default:
                world.comeIdle(numberAt(at + 1, 1));
                break;
        }
    }

    // ---- undone, played again, drawn

    /** To be called ahead of each change that can be undone, when it is sure to be done. */
    private void remember() {
        World spare = undoWorlds[(undoOldest + undoSize) % UNDO_ROOM];
        if (spare == null) {
            return;
        }
        spare.copyFrom(world);
        if (undoSize < UNDO_ROOM) {
            undoSize++;
        } else {
            undoOldest = (undoOldest + 1) % UNDO_ROOM;
        }
    }

    /** Plays all inputs in the trial world, but for those of the source that is left out. */
    private void replay(int gap, int lateness, int early, int leftOut) {
        int n = world.sources.size;
        trial.reset(n, gap, lateness, early);
        for (int source = 0; source < n; source++) {
            trial.sources.set(source, SOURCE_DELAY, world.sources.get(source, SOURCE_DELAY));
        }
        if (leftOut >= 0) {
            trial.sources.set(leftOut, SOURCE_IDLE, 1);
        }
        for (int i = 0; i < world.inputs.size; i++) {
            if (world.inputs.get(i, INPUT_SOURCE) != leftOut) {
                trial.playInput(world.inputs, i);
            }
        }
    }

    /** Fills byTime with the key's events that were taken: how many. */
    private int sortTaken(int key) {
        int n = 0;
        for (int i = 0; i < world.inputs.size && n < byTime.length; i++) {
            if (!world.isTakenOf(i, key)) {
                continue;
            }
            int time = world.inputs.get(i, INPUT_TIME);
            int place = n;
            while (place > 0 && sortedCell(place - 1, INPUT_TIME) > time) {
                byTime[place] = byTime[place - 1];
                place--;
            }
            byTime[place] = i;
            n++;
        }
        return n;
    }

    private int sortedCell(int k, int column) {
        return k >= 0 && k < byTime.length ? world.inputs.get(byTime[k], column) : 0;
    }

    private int holeBehind(int k) {
        return sortedCell(k + 1, INPUT_TIME) - sortedCell(k, INPUT_TIME);
    }

    private static int drawAfter(int drawn) {
        return drawn * 1103515245 + 12345;
    }

    private static int drawOf(int drawn, int n) {
        return n > 0 ? (drawn >>> 16) % n : 0;
    }

    /** Rows of numbers in one array that is made once; a cell that is not there reads 0. */
    private static final class Table {
        final int room;
        final int width;
        final int[] cells;
        int size;

        Table(int room, int width) {
            this.room = Math.max(0, room);
            this.width = Math.max(0, width);
            cells = new int[this.room * this.width];
        }

        int get(int i, int column) {
            if (i < 0 || i >= room || column < 0 || column >= width) {
                return 0;
            }
            return cells[i * width + column];
        }

        void set(int i, int column, int v) {
            if (i >= 0 && i < room && column >= 0 && column < width) {
                cells[i * width + column] = v;
            }
        }

        void add(int i, int column, int more) {
            if (i >= 0 && i < room && column >= 0 && column < width) {
                cells[i * width + column] += more;
            }
        }

        void clear() {
            size = 0;
        }

        /** A row that is written without open() counts from now on. */
        void reach(int i) {
            if (i >= size && i < room) {
                size = i + 1;
            }
        }

        /** Makes a row of zeros at a place from 0 to size: whether there was room. */
        boolean open(int i) {
            if (i < 0 || i > size || size >= room) {
                return false;
            }
            System.arraycopy(cells, i * width, cells, (i + 1) * width, (size - i) * width);
            for (int column = 0; column < width; column++) {
                set(i, column, 0);
            }
            size++;
            return true;
        }

        void drop(int i) {
            if (i < 0 || i >= size) {
                return;
            }
            System.arraycopy(cells, (i + 1) * width, cells, i * width, (size - i - 1) * width);
            size--;
        }

        void copyRow(int i, Table other, int j) {
            if (other == null) {
                return;
            }
            for (int column = 0; column < width; column++) {
                set(i, column, other.get(j, column));
            }
        }

        void copyFrom(Table other) {
            if (other == null || other.cells.length != cells.length) {
                return;
            }
            size = other.size;
            System.arraycopy(other.cells, 0, cells, 0, Math.min(size * width, cells.length));
        }
    }

    /** All that section 1 of the document tells of. */
    private static final class World {
        int gap;
        int lateness;
        int early;
        int progress;
        int sentSize;
        int closedSize;
        int takenSize;
        int lateSize;
        int droppedSize;
        int meltedSize;
        final Table sources = new Table(MAX_SOURCES, SOURCE_WIDTH);
        /** By keys, of one key by first. One more than inputs: would() asks for one beyond. */
        final Table sessions = new Table(MAX_INPUTS + 1, SESSION_WIDTH);
        /** Message number i stands in row i % MESSAGES_KEPT; so do the finals in theirs. */
        final Table messages = new Table(MESSAGES_KEPT, MESSAGE_WIDTH);
        final Table finals = new Table(FINALS_KEPT, SESSION_WIDTH);
        final Table inputs = new Table(MAX_INPUTS, INPUT_WIDTH);
        final Table keys = new Table(KEYS, KEY_WIDTH);

        World() {
            reset(1, 10, 5, 0);
        }

        void reset(int n, int newGap, int newLateness, int newEarly) {
            gap = newGap;
            lateness = newLateness;
            early = newEarly;
            progress = 0;
            sentSize = 0;
            closedSize = 0;
            takenSize = 0;
            lateSize = 0;
            droppedSize = 0;
            meltedSize = 0;
            sources.clear();
            for (int i = 0; i < n; i++) {
                sources.open(i);
                sources.set(i, SOURCE_DELAY, 20);
            }
            sessions.clear();
            messages.clear();
            finals.clear();
            inputs.clear();
            keys.clear();
            for (int key = 0; key < KEYS; key++) {
                keys.open(key);
                keys.set(key, KEY_LONGEST, NONE);
            }
        }

        void copyFrom(World other) {
            if (other == null) {
                return;
            }
            gap = other.gap;
            lateness = other.lateness;
            early = other.early;
            progress = other.progress;
            sentSize = other.sentSize;
            closedSize = other.closedSize;
            takenSize = other.takenSize;
            lateSize = other.lateSize;
            droppedSize = other.droppedSize;
            meltedSize = other.meltedSize;
            sources.copyFrom(other.sources);
            sessions.copyFrom(other.sessions);
            messages.copyFrom(other.messages);
            finals.copyFrom(other.finals);
            inputs.copyFrom(other.inputs);
            keys.copyFrom(other.keys);
        }

        // -- inputs that are noted

        int comeEvent(int key, int time, int value, int source) {
            int i = inputs.size;
            int behind = Math.max(0, progress - time);
            note(EVENT_INPUT, source, time);
            int fate = playEvent(key, time, value, source);
            inputs.set(i, INPUT_KEY, key);
            inputs.set(i, INPUT_VALUE, value);
            inputs.set(i, INPUT_FATE, fate);
            inputs.set(i, INPUT_BEHIND, behind);
            return fate;
        }

        void comeMark(int source, int t) {
            note(MARK_INPUT, source, t);
            playMark(source, t);
        }

        void comeIdle(int source) {
            note(IDLE_INPUT, source, 0);
            playIdle(source);
        }

        private void note(int what, int source, int time) {
            int i = inputs.size;
            if (inputs.open(i)) {
                inputs.set(i, INPUT_WHAT, what);
                inputs.set(i, INPUT_SOURCE, source);
                inputs.set(i, INPUT_TIME, time);
                inputs.set(i, INPUT_KEY, NONE);
                inputs.set(i, INPUT_FATE, NONE);
            }
        }

        // -- inputs that are played, noted or not

        void playInput(Table rows, int i) {
            int source = rows.get(i, INPUT_SOURCE);
            int time = rows.get(i, INPUT_TIME);
            switch (rows.get(i, INPUT_WHAT)) {
                case EVENT_INPUT:
                    playEvent(rows.get(i, INPUT_KEY), time, rows.get(i, INPUT_VALUE), source);
                    break;
                case MARK_INPUT:
                    playMark(source, time);
                    break;
                default:
                    playIdle(source);
                    break;
            }
        }

        int playEvent(int key, int time, int value, int source) {
            int fate = fateOf(time);
            sources.add(source, SOURCE_CAME, 1);
            if (fate == DROPPED) {
                droppedSize++;
                sources.add(source, SOURCE_DROPPED, 1);
            } else {
                takenSize++;
                lateSize += fate == LATE ? 1 : 0;
                melt(key, time, value);
            }
            sources.set(source, SOURCE_IDLE, 0);
            raiseMark(source, time - sources.get(source, SOURCE_DELAY));
            rise();
            return fate;
        }

        void playMark(int source, int t) {
            raiseMark(source, t);
            rise();
        }

        void playIdle(int source) {
            sources.set(source, SOURCE_IDLE, 1);
            rise();
        }

        private void raiseMark(int source, int t) {
            if (t > sources.get(source, SOURCE_MARK)) {
                sources.set(source, SOURCE_MARK, t);
            }
        }

        // -- what is asked of it

        int fateOf(int time) {
            if (time < progress - lateness) {
                return DROPPED;
            }
            return time < progress ? LATE : ON_TIME;
        }

        boolean isTakenOf(int i, int key) {
            int fate = inputs.get(i, INPUT_FATE);
            return inputs.get(i, INPUT_KEY) == key && (fate == ON_TIME || fate == LATE);
        }

        boolean hasResult(int i) {
            return sessions.get(i, SESSION_KIND) != NONE;
        }

        boolean isRipe(int i, int when) {
            return sessions.get(i, SESSION_LAST) + gap < when;
        }

        boolean isOver(int i, int when) {
            return sessions.get(i, SESSION_LAST) + gap + lateness < when;
        }

        /** How many sessions that are not ripe would be, were progress another. */
        int ripening(int when) {
            int n = 0;
            for (int i = 0; i < sessions.size; i++) {
                if (!isRipe(i, progress) && isRipe(i, when)) {
                    n++;
                }
            }
            return n;
        }

        /** The least mark of the sources that are not idle, one of them left out; or NONE. */
        int leastMark(int leftOut) {
            int least = NONE;
            for (int source = 0; source < sources.size; source++) {
                if (source == leftOut || sources.get(source, SOURCE_IDLE) != 0) {
                    continue;
                }
                int mark = sources.get(source, SOURCE_MARK);
                least = least < 0 ? mark : Math.min(least, mark);
            }
            return least;
        }

        int sentOf(int kind) {
            int n = 0;
            for (int key = 0; key < KEYS; key++) {
                n += keys.get(key, kind);
            }
            return n;
        }

        private boolean touches(int i, int key, int time) {
            return sessions.get(i, SESSION_KEY) == key
                    && sessions.get(i, SESSION_FIRST) - gap <= time
                    && sessions.get(i, SESSION_LAST) + gap >= time;
        }

        /** The first session that an event would melt with, or NONE. */
        int firstTouched(int key, int time) {
            for (int i = 0; i < sessions.size; i++) {
                if (touches(i, key, time)) {
                    return i;
                }
            }
            return NONE;
        }

        /** How many sessions an event would melt with; they stand one behind another. */
        int touchedFrom(int first, int key, int time) {
            int n = 0;
            for (int i = first; i >= 0 && i < sessions.size && touches(i, key, time); i++) {
                n++;
            }
            return n;
        }

        // -- how sessions change

        private void melt(int key, int time, int value) {
            int first = firstTouched(key, time);
            int melting = touchedFrom(first, key, time);
            int place = first >= 0 ? first : placeFor(key, time);
            for (int i = place; i < place + melting; i++) {
                takeBack(i);
            }
            if (!sessions.open(place)) {
                return;
            }
            sessions.set(place, SESSION_KEY, key);
            sessions.set(place, SESSION_FIRST, time);
            sessions.set(place, SESSION_LAST, time);
            sessions.set(place, SESSION_COUNT, 1);
            sessions.set(place, SESSION_SUM, value);
            sessions.set(place, SESSION_MOST, value);
            sessions.set(place, SESSION_KIND, NONE);
            for (int n = 0; n < melting; n++) {
                swallowNext(place);
            }
            meltedSize += melting > 1 ? 1 : 0;
            int kind = kindOfNew(place);
            if (kind >= 0) {
                announce(kind, place);
            }
        }

        private int placeFor(int key, int time) {
            for (int i = 0; i < sessions.size; i++) {
                int otherKey = sessions.get(i, SESSION_KEY);
                boolean behind = otherKey == key && sessions.get(i, SESSION_FIRST) > time;
                if (otherKey > key || behind) {
                    return i;
                }
            }
            return sessions.size;
        }

        private void swallowNext(int i) {
            int j = i + 1;
            sessions.set(i, SESSION_FIRST,
                    Math.min(sessions.get(i, SESSION_FIRST), sessions.get(j, SESSION_FIRST)));
            sessions.set(i, SESSION_LAST,
                    Math.max(sessions.get(i, SESSION_LAST), sessions.get(j, SESSION_LAST)));
            sessions.add(i, SESSION_COUNT, sessions.get(j, SESSION_COUNT));
            sessions.add(i, SESSION_SUM, sessions.get(j, SESSION_SUM));
            sessions.set(i, SESSION_MOST,
                    Math.max(sessions.get(i, SESSION_MOST), sessions.get(j, SESSION_MOST)));
            sessions.drop(j);
        }

        /** The kind of result that a session is told by as soon as it is made, or NONE. */
        private int kindOfNew(int i) {
            if (isRipe(i, progress)) {
                return LATE_RESULT;
            }
            boolean full = early > 0 && sessions.get(i, SESSION_COUNT) % early == 0;
            return full ? EARLY_RESULT : NONE;
        }

        private void rise() {
            int before = progress;
            int least = leastMark(NONE);
            if (least <= before) {
                return;
            }
            progress = least;
            int passed = NONE;
            for (int rounds = sessions.size; rounds > 0; rounds--) {
                int i = dueBehind(passed, before);
                if (i < 0) {
                    return;
                }
                passed = turnOf(i);
                if (!isRipe(i, before)) {
                    takeBack(i);
                    announce(ON_TIME_RESULT, i);
                }
                if (isOver(i, progress)) {
                    finish(i);
                }
            }
        }

        /** By last, of equal ones by keys. */
        private int turnOf(int i) {
            return sessions.get(i, SESSION_LAST) * KEYS + sessions.get(i, SESSION_KEY);
        }

        /** The session whose turn it is to get ripe or closed behind another turn, or NONE. */
        private int dueBehind(int passed, int before) {
            int found = NONE;
            int least = 0;
            for (int i = 0; i < sessions.size; i++) {
                if (!isRipe(i, progress) || isRipe(i, before) && !isOver(i, progress)) {
                    continue;
                }
                int turn = turnOf(i);
                if (turn > passed && (found < 0 || turn < least)) {
                    found = i;
                    least = turn;
                }
            }
            return found;
        }

        private void finish(int i) {
            int slot = closedSize % FINALS_KEPT;
            finals.reach(slot);
            finals.copyRow(slot, sessions, i);
            int key = sessions.get(i, SESSION_KEY);
            int length = sessions.get(i, SESSION_LAST) - sessions.get(i, SESSION_FIRST);
            keys.add(key, KEY_CLOSED, 1);
            keys.add(key, KEY_COUNTS, sessions.get(i, SESSION_COUNT));
            keys.add(key, KEY_SUMS, sessions.get(i, SESSION_SUM));
            keys.set(key, KEY_LONGEST, Math.max(keys.get(key, KEY_LONGEST), length));
            closedSize++;
            sessions.drop(i);
        }

        // -- messages

        private void takeBack(int i) {
            if (hasResult(i)) {
                send(TAKEN_BACK, i);
                sessions.set(i, SESSION_KIND, NONE);
            }
        }

        private void announce(int kind, int i) {
            send(kind, i);
            sessions.set(i, SESSION_KIND, kind);
        }

        private void send(int kind, int i) {
            int slot = sentSize % MESSAGES_KEPT;
            messages.reach(slot);
            int key = sessions.get(i, SESSION_KEY);
            messages.set(slot, MESSAGE_KIND, kind);
            messages.set(slot, MESSAGE_KEY, key);
            messages.set(slot, MESSAGE_FIRST, sessions.get(i, SESSION_FIRST));
            messages.set(slot, MESSAGE_LAST, sessions.get(i, SESSION_LAST));
            messages.set(slot, MESSAGE_COUNT, sessions.get(i, SESSION_COUNT));
            messages.set(slot, MESSAGE_SUM, sessions.get(i, SESSION_SUM));
            keys.add(key, kind, 1);
            sentSize++;
        }
    }
}
