import java.util.NoSuchElementException;

/**
 * Fans of rays in a plane, with numbers (loads) on the rays, as the document of the project tells.
 *
 * All rows are made with the object and used again: no call makes a new one.
 */
public final class FanCones {
    public static final int NONE = -1;
    public static final long NOTHING = Long.MIN_VALUE;

    private static final int NO_MORE = -2;

    private static final int NOT_THERE = 1;
    private static final int BAD_NUMBER = 2;
    private static final int NO_ROOM = 3;
    private static final int FAULTY = 4;
    private static final int NOT_SO = 5;

    private static final int MOST_ACTS = 8;
    private static final int MOST_NUMBER = 20;
    private static final int MOST_TIMES = 3;
    private static final int MOST_MULTIPLE = 4;

    private final Tape tape;
    private final Chain links;
    private final Polygon polygon;
    private final int[] names;
    private final Fan[] past;
    private Fan now;
    private Fan draft;
    private int nextPast;
    private int acts;
    private int lastFault;
    private int lastPlace;
    private int refusal;

    public FanCones() {
        tape = new Tape();
        links = new Chain();
        polygon = new Polygon();
        names = new int[Fan.MOST_LOADS];
        past = new Fan[MOST_ACTS];
        for (int i = 0; i < past.length; i++) {
            past[i] = new Fan();
        }
        now = new Fan();
        draft = new Fan();
    }

    // ---- the fan

    public int feed(int a, int b, int c, int d, int e) {
        if (!tape.hasRoom()) {
            return NONE;
        }
        tape.append(a);
        tape.append(b);
        tape.append(c);
        tape.append(d);
        tape.append(e);
        return tape.used;
    }

    public int fan(int n) {
        if (n < 0 || n > tape.used) {
            refusal = BAD_NUMBER;
            return NONE;
        }
        // Read into the draft, so that a fault leaves the fan that stands alone.
        lastFault = tape.read(n);
        lastPlace = tape.place;
        tape.used = 0;
        if (lastFault == 0) {
            draft.build(tape);
            lastFault = draft.isClosed() ? 0 : Tape.LACKS;
        }
        if (lastFault != 0) {
            refusal = FAULTY;
            return NONE;
        }
        System.arraycopy(tape.loadNames, 0, names, 0, names.length);
        Fan old = now;
        now = draft;
        draft = old;
        acts = 0;
        refusal = 0;
        return now.count;
    }

    public int fault() {
        return lastFault;
    }

    public int where() {
        return refusal == FAULTY ? lastPlace : NONE;
    }

    public int about(int what) {
        refusal = isThere() && what >= 0 && what <= 7 ? 0 : NOT_THERE;
        if (refusal != 0) {
            return NONE;
        }
        switch (what) {
            case 0: return now.count;
            case 1: return now.loads;
            case 2: return now.wholeCones();
            case 3: return now.greatestTurn();
            case 4: return now.index();
            case 5: return acts;
            case 6: return now.goers();
            default: return now.lights();
        }
    }

    public int measure() {
        refusal = isThere() ? 0 : NOT_THERE;
        return refusal != 0 ? NONE : (int) measured();
    }

    public long ray(int i, int what) {
        refusal = hasRay(i) && what >= 0 && what <= 4 ? 0 : NOT_THERE;
        if (refusal != 0) {
            return NOTHING;
        }
        switch (what) {
            case 0: return now.x(i);
            case 1: return now.y(i);
            case 2: return now.turn(i);
            case 3: return now.kind(i);
            default:
                links.start(now.turn(i), now.kind(i));
                return links.countAll();
        }
    }

    public int chain(int i, int k) {
        refusal = hasRay(i) && k >= 0 ? 0 : NOT_THERE;
        if (refusal != 0) {
            return NONE;
        }
        links.start(now.turn(i), now.kind(i));
        return links.skipTo(k) ? links.step() : NO_MORE;
    }

    public int cone(int x, int y) {
        refusal = !isThere() ? NOT_THERE : isFar(x, y) || x == 0 && y == 0 ? BAD_NUMBER : 0;
        return refusal != 0 ? NONE : now.coneOf(x, y);
    }

    // ---- loads

    public long load(int d, int i) {
        refusal = hasLoad(d) && hasRay(i) ? 0 : NOT_THERE;
        return refusal != 0 ? NOTHING : now.number(d, i);
    }

    public long function(int d, int x, int y, int what) {
        refusal = !hasLoad(d) || what < 0 || what > 1 ? NOT_THERE : isFar(x, y) ? BAD_NUMBER : 0;
        if (refusal != 0) {
            return NOTHING;
        }
        int i = now.coneOf(x, y);
        long above = now.functionTimesTurn(d, i, x, y);
        long below = now.turn(i);
        long common = Whole.common(above, below);
        return Whole.by(what == 0 ? above : below, common);
    }

    public long piece(int d, int i, int what) {
        refusal = hasLoad(d) && hasRay(i) && what >= 0 && what <= 2 ? 0 : NOT_THERE;
        if (refusal != 0) {
            return NOTHING;
        }
        switch (what) {
            case 0: return now.pieceAlong(d, i);
            case 1: return now.pieceUp(d, i);
            default: return now.isPieceWhole(d, i) ? 1 : 0;
        }
    }

    public int broken(int d) {
        refusal = hasLoad(d) ? 0 : NOT_THERE;
        return refusal != 0 ? NONE : now.brokenPieces(d);
    }

    public int bent(int d) {
        refusal = hasLoad(d) ? 0 : NOT_THERE;
        return refusal != 0 ? NONE : now.bending(d);
    }

    public int alike(int d, int e) {
        refusal = hasLoad(d) && hasLoad(e) ? 0 : NOT_THERE;
        if (refusal != 0) {
            return NONE;
        }
        return now.differWholly(d, e) ? 1 : 0;
    }

    // ---- meeting

    public long meets(int d, int e) {
        refusal = hasLoad(d) && hasLoad(e) ? 0 : NOT_THERE;
        long common = refusal != 0 ? NONE : measured();
        return refusal != 0 ? NOTHING : now.loadsMeet(d, e, common);
    }

    public long touches(int d, int i) {
        refusal = hasLoad(d) && hasRay(i) ? 0 : NOT_THERE;
        long common = refusal != 0 ? NONE : measured();
        return refusal != 0 ? NOTHING : now.loadMeetsRay(d, i, common);
    }

    public long rays(int i, int j) {
        refusal = hasRay(i) && hasRay(j) ? 0 : NOT_THERE;
        long common = refusal != 0 ? NONE : measured();
        return refusal != 0 ? NOTHING : now.raysMeet(i, j, common);
    }

    // ---- points

    public long points(int d, int k) {
        refusal = !hasLoad(d) ? NOT_THERE : isMultiple(k) ? 0 : BAD_NUMBER;
        return refusal != 0 ? NOTHING : polygon.countAll(now, d, k, 0);
    }

    public long inner(int d, int k) {
        refusal = !hasLoad(d) ? NOT_THERE : isMultiple(k) ? 0 : BAD_NUMBER;
        return refusal != 0 ? NOTHING : polygon.countAll(now, d, k, 1);
    }

    public long point(int d, int k, long i, int what) {
        refusal = !hasLoad(d) || what < 0 || what > 1 ? NOT_THERE : isMultiple(k) ? 0 : BAD_NUMBER;
        if (refusal != 0) {
            return NOTHING;
        }
        if (i < 0 || i >= polygon.countAll(now, d, k, 0)) {
            refusal = NOT_THERE;
            return NOTHING;
        }
        long m = polygon.columnOf(i);
        return what == 0 ? m : polygon.heightOf(i, m);
    }

    public int needs(int d, long n) {
        refusal = hasLoad(d) ? 0 : NOT_THERE;
        if (refusal != 0) {
            return NONE;
        }
        for (int k = 1; k <= MOST_MULTIPLE; k++) {
            if (polygon.countAll(now, d, k, 0) >= n) {
                return k;
            }
        }
        return NO_MORE;
    }

    // ---- acts on loads

    public long set(int d, int i, int v) {
        refusal = !hasLoad(d) || !hasRay(i) ? NOT_THERE : Whole.isBeyond(v, MOST_NUMBER) ? BAD_NUMBER : 0;
        if (refusal != 0) {
            return NOTHING;
        }
        long was = now.number(d, i);
        draft.copyFrom(now);
        draft.put(d, i, v);
        keepDraft();
        return was;
    }

    public boolean fill(int d, int v) {
        refusal = !hasLoad(d) ? NOT_THERE : Whole.isBeyond(v, MOST_NUMBER) ? BAD_NUMBER : 0;
        if (refusal != 0) {
            return false;
        }
        draft.copyFrom(now);
        for (int i = 0; i < draft.count; i++) {
            draft.put(d, i, v);
        }
        keepDraft();
        return true;
    }

    public boolean adds(int d, int e, int times) {
        refusal = !hasLoad(d) || !hasLoad(e) ? NOT_THERE : Whole.isBeyond(times, MOST_TIMES) ? BAD_NUMBER : 0;
        if (refusal != 0) {
            return false;
        }
        draft.copyFrom(now);
        return keepIf(draft.addLoad(d, e, times));
    }

    public boolean shifts(int d, int m, int n) {
        boolean isBeyond = Whole.isBeyond(m, MOST_NUMBER) || Whole.isBeyond(n, MOST_NUMBER);
        refusal = !hasLoad(d) ? NOT_THERE : isBeyond ? BAD_NUMBER : 0;
        if (refusal != 0) {
            return false;
        }
        draft.copyFrom(now);
        return keepIf(draft.addWhole(d, m, n));
    }

    // ---- acts on rays

    public int star(int i) {
        refusal = hasRay(i) ? 0 : NOT_THERE;
        if (refusal != 0) {
            return NONE;
        }
        draft.copyFrom(now);
        int j = now.behind(i);
        int x = now.x(i) + now.x(j);
        int y = now.y(i) + now.y(j);
        long common = Whole.common(x, y);
        int fresh = draft.insert(now, i, (int) Whole.by(x, common), (int) Whole.by(y, common));
        return keepIf(fresh != NONE) ? fresh : NONE;
    }

    public int cut(int i) {
        refusal = hasRay(i) ? 0 : NOT_THERE;
        if (refusal != 0) {
            return NONE;
        }
        draft.copyFrom(now);
        int fresh = cutInDraft(i);
        return keepIf(fresh != NONE) ? fresh : NONE;
    }

    public int cutAll() {
        refusal = isThere() ? 0 : NOT_THERE;
        if (refusal != 0) {
            return NONE;
        }
        draft.copyFrom(now);
        boolean fits = true;
        for (int i = 0; i < now.count && fits; i++) {
            fits = cutInDraft(i) != NONE;
        }
        int fresh = draft.count - now.count;
        return keepIf(fits) ? fresh : NONE;
    }

    public int drop(int i) {
        refusal = !hasRay(i) ? NOT_THERE : now.canGo(i) ? 0 : NOT_SO;
        if (refusal != 0) {
            return NONE;
        }
        draft.copyFrom(now);
        draft.remove(i);
        keepDraft();
        return now.count;
    }

    public int lean() {
        refusal = isThere() ? 0 : NOT_THERE;
        if (refusal != 0) {
            return NONE;
        }
        draft.copyFrom(now);
        int light = draft.firstLight();
        int went = 0;
        while (light != NONE && went < Fan.MOST_RAYS) {
            draft.remove(light);
            went++;
            light = draft.firstLight();
        }
        keepDraft();
        return went;
    }

    public int undo() {
        refusal = !isThere() ? NOT_THERE : acts == 0 ? NOT_SO : 0;
        if (refusal != 0) {
            return NONE;
        }
        int latest = placeInRing(nextPast - 1);
        Fan undone = now;
        now = past[latest];
        past[latest] = undone;
        nextPast = latest;
        acts--;
        return acts;
    }

    // ---- what is told

    public int letter(int d, int k) throws NoSuchElementException {
        int name = nameOf(d);
        if (k < 0 || k >= Tape.lengthOf(name)) {
            throw new NoSuchElementException();
        }
        return Tape.letterOf(name, k);
    }

    public int size() {
        return tape.used;
    }

    public int trouble() {
        return refusal;
    }

    // ---- within

    private boolean isThere() {
        return now.count > 0;
    }

    private boolean hasRay(int i) {
        return i >= 0 && i < now.count;
    }

    private boolean hasLoad(int d) {
        return d >= 0 && d < now.loads;
    }

    /** The word of a load's name; the word of no letters, if there is no such load. */
    private int nameOf(int d) {
        return hasLoad(d) && d < names.length ? names[d] : 0;
    }

    private static boolean isFar(int x, int y) {
        return Whole.isBeyond(x, Fan.MOST_PLACE) || Whole.isBeyond(y, Fan.MOST_PLACE);
    }

    private static boolean isMultiple(int k) {
        return k >= 0 && k <= MOST_MULTIPLE;
    }

    private long measured() {
        long common = now.commonTurn();
        refusal = common == NONE ? NO_ROOM : 0;
        return common;
    }

    /** Puts the rays of a cut of the standing fan's cone i into the draft: how many, or NONE without room. */
    private int cutInDraft(int i) {
        int turn = now.turn(i);
        int kind = now.kind(i);
        int j = now.behind(i);
        int lastX = now.x(i);
        int lastY = now.y(i);
        int x = (int) Whole.by((long) kind * lastX + now.x(j), turn);
        int y = (int) Whole.by((long) kind * lastY + now.y(j), turn);
        links.start(turn, kind);
        int fresh = 0;
        while (links.goesOn() && fresh < Fan.MOST_RAYS) {
            if (draft.insert(now, i, x, y) == NONE) {
                return NONE;
            }
            fresh++;
            int times = links.step();
            int nextX = times * x - lastX;
            int nextY = times * y - lastY;
            lastX = x;
            lastY = y;
            x = nextX;
            y = nextY;
        }
        return fresh;
    }

    /** A place of the ring of kept fans, for a number that may be one step beyond either end. */
    private static int placeInRing(int i) {
        return i < 0 ? MOST_ACTS - 1 : i >= MOST_ACTS ? 0 : i;
    }

    private boolean keepIf(boolean fits) {
        if (!fits) {
            refusal = NO_ROOM;
            return false;
        }
        keepDraft();
        return true;
    }

    /** The oldest kept fan becomes the next draft: the rows go round, none is made anew. */
    private void keepDraft() {
        int at = placeInRing(nextPast);
        Fan oldest = past[at];
        past[at] = now;
        now = draft;
        draft = oldest;
        nextPast = placeInRing(at + 1);
        acts = Math.min(MOST_ACTS, acts + 1);
    }

    /** Arithmetic of whole numbers; a divisor of 0, which no caller means, answers 0 instead of throwing. */
    private static final class Whole {
        private static final int MOST_STEPS = 200;

        static boolean isBeyond(long number, long most) {
            return number < -most || number > most;
        }

        static long by(long above, long below) {
            return below == 0 ? 0 : above / below;
        }

        static long floorBy(long above, long below) {
            return below == 0 ? 0 : Math.floorDiv(above, below);
        }

        static long rest(long above, long below) {
            return below == 0 ? 0 : Math.floorMod(above, below);
        }

        /** The greatest whole number that goes into both; 0 for two zeros. */
        static long common(long a, long b) {
            long big = Math.abs(a);
            long small = Math.abs(b);
            for (int step = 0; step < MOST_STEPS && small != 0; step++) {
                long next = rest(big, small);
                big = small;
                small = next;
            }
            return big;
        }

        /** The s of s a + t b = 1, for a, b into which no whole number above 1 goes. */
        static int firstFactor(int a, int b) {
            long big = a;
            long small = b;
            long factor = 1;
            long nextFactor = 0;
            for (int step = 0; step < MOST_STEPS && small != 0; step++) {
                long times = by(big, small);
                long rest = big - times * small;
                long newFactor = factor - times * nextFactor;
                big = small;
                small = rest;
                factor = nextFactor;
                nextFactor = newFactor;
            }
            return (int) (big < 0 ? -factor : factor);
        }

        /** The sum over i from 0 below n of (a i + b) by c, each downwards to a whole number; c is above 0. */
        static long floorSum(long n, long c, long a, long b) {
            long sum = 0;
            long count = n;
            long below = c;
            long slope = a;
            long start = b;
            for (int step = 0; step < MOST_STEPS && count > 0 && below > 0; step++) {
                sum += count * (count - 1) / 2 * floorBy(slope, below) + count * floorBy(start, below);
                slope = rest(slope, below);
                start = rest(start, below);
                // What is left counts points under a line; seen from its other side the numbers are smaller.
                long top = slope * count + start;
                count = floorBy(top, below);
                start = rest(top, below);
                long oldBelow = below;
                below = slope;
                slope = oldBelow;
            }
            return sum;
        }
    }

    /** The bytes that came, and the text of a fan in them. */
    private static final class Tape {
        static final int LACKS = 5;

        private static final int MOST_BYTES = 500;
        private static final int FED_AT_ONCE = 20;
        private static final int MOST_RAYS = 12;
        private static final int MOST_AT = 9;
        private static final int MOST_LETTERS = 6;
        private static final int MOST_DIGITS = 2;

        private static final int FORM = 1;
        private static final int BOUNDS = 2;
        private static final int NAME = 3;
        private static final int MANY = 4;

        // A sign's kind is its byte.
        private static final int END = 0;
        private static final int WORD = 1;
        private static final int WHOLE = 2;
        private static final int NO_TOKEN = 3;

        // A word is kept as one number, five bits a letter (a is 1), so that words are alike when numbers are.
        private static final int LETTER_BITS = 5;
        private static final int LETTER_MASK = 31;
        private static final int RAY = (18 << 10) + (1 << 5) + 25;
        private static final int AT = (1 << 5) + 20;
        private static final int LOAD = (12 << 15) + (15 << 10) + (1 << 5) + 4;
        private static final int ON = (15 << 5) + 14;

        final int[] xs = new int[MOST_RAYS];
        final int[] ys = new int[MOST_RAYS];
        final int[] loadNames = new int[Fan.MOST_LOADS];
        final int[] numbers = new int[Fan.MOST_LOADS * MOST_RAYS];
        int used;
        int place;
        int rayCount;
        int loadCount;

        private final byte[] bytes = new byte[MOST_BYTES];
        private final int[] rayNames = new int[MOST_RAYS];
        private int end;
        private int next;
        private int kind;
        private int value;
        private int signed;

        static int lengthOf(int word) {
            int length = 0;
            while (length < MOST_LETTERS && word >>> (LETTER_BITS * length) != 0) {
                length++;
            }
            return length;
        }

        static int letterOf(int word, int k) {
            return (word >>> (LETTER_BITS * (lengthOf(word) - 1 - k)) & LETTER_MASK) - 1;
        }

        boolean hasRoom() {
            return used + FED_AT_ONCE <= MOST_BYTES;
        }

        void append(int four) {
            for (int shift = 24; shift >= 0 && used < bytes.length; shift -= 8) {
                bytes[used] = (byte) (four >>> shift);
                used++;
            }
        }

        int numberOf(int load, int ray) {
            int at = load * MOST_RAYS + ray;
            return at >= 0 && at < numbers.length ? numbers[at] : 0;
        }

        /** The fault of the first n bytes as far as lines go (0 without one); place is then where it is. */
        int read(int n) {
            end = Math.min(n, bytes.length);
            next = 0;
            rayCount = 0;
            loadCount = 0;
            for (int i = 0; i < numbers.length; i++) {
                numbers[i] = 0;
            }
            for (int lines = 0; lines <= MOST_BYTES; lines++) {
                take();
                int fault = kind != WORD ? FORM : value == RAY ? readRay() : value == LOAD ? readLoad() : FORM;
                if (fault != 0) {
                    return fault;
                }
                if (kind == END) {
                    return 0;
                }
                if (kind != ';') {
                    return FORM;
                }
            }
            return FORM;
        }

        private int readRay() {
            if (rayCount >= MOST_RAYS) {
                return MANY;
            }
            take();
            int name = value;
            int fault = faultOfNewName();
            if (fault == 0) {
                take();
                fault = faultOfWord(AT);
            }
            if (fault == 0) {
                take();
                fault = faultOfInt(MOST_AT);
            }
            int x = signed;
            if (fault == 0) {
                take();
                fault = faultOfInt(MOST_AT);
            }
            if (fault != 0) {
                return fault;
            }
            if (Whole.common(x, signed) != 1 || isRayAt(x, signed)) {
                return BOUNDS;
            }
            xs[rayCount] = x;
            ys[rayCount] = signed;
            rayNames[rayCount] = name;
            rayCount++;
            take();
            return 0;
        }

        private int readLoad() {
            int load = loadCount;
            if (load >= Fan.MOST_LOADS) {
                return MANY;
            }
            take();
            int fault = faultOfNewName();
            if (fault != 0) {
                return fault;
            }
            loadNames[load] = value;
            loadCount++;
            int told = 0;
            for (int parts = 0; parts <= MOST_RAYS; parts++) {
                take();
                fault = faultOfPart(told);
                if (fault != 0) {
                    return fault;
                }
                int ray = rayNamed(value);
                told |= 1 << ray;
                int at = load * MOST_RAYS + ray;
                if (at >= 0 && at < numbers.length) {
                    numbers[at] = signed;
                }
                take();
                if (kind != ',') {
                    return 0;
                }
            }
            return FORM;
        }

        /** One INT on NAME; told has the rays (bits) that were in this load. */
        private int faultOfPart(int told) {
            int fault = faultOfInt(Fan.MOST_TOLD);
            if (fault != 0) {
                return fault;
            }
            take();
            fault = faultOfWord(ON);
            if (fault != 0) {
                return fault;
            }
            take();
            if (!isName()) {
                return FORM;
            }
            int ray = rayNamed(value);
            return ray == NONE || (told >>> ray & 1) == 1 ? NAME : 0;
        }

        private int faultOfInt(int most) {
            boolean isNegative = kind == '-';
            if (isNegative) {
                take();
            }
            if (kind != WHOLE) {
                return FORM;
            }
            signed = isNegative ? -value : value;
            return value > most ? BOUNDS : 0;
        }

        private int faultOfWord(int word) {
            return kind == WORD && value == word ? 0 : FORM;
        }

        private int faultOfNewName() {
            if (!isName()) {
                return FORM;
            }
            return rayNamed(value) != NONE || isLoadNamed(value) ? NAME : 0;
        }

        private boolean isName() {
            return kind == WORD && value != RAY && value != AT && value != LOAD && value != ON;
        }

        private int rayNamed(int word) {
            for (int i = 0; i < rayCount && i < MOST_RAYS; i++) {
                if (rayNames[i] == word) {
                    return i;
                }
            }
            return NONE;
        }

        private boolean isLoadNamed(int word) {
            for (int i = 0; i < loadCount && i < Fan.MOST_LOADS; i++) {
                if (loadNames[i] == word) {
                    return true;
                }
            }
            return false;
        }

        private boolean isRayAt(int x, int y) {
            for (int i = 0; i < rayCount && i < MOST_RAYS; i++) {
                if (xs[i] == x && ys[i] == y) {
                    return true;
                }
            }
            return false;
        }

        private void take() {
            while (next < end && bytes[next] == ' ') {
                next++;
            }
            place = next;
            value = 0;
            if (next >= end) {
                kind = END;
                return;
            }
            int first = bytes[next];
            if (first >= 'a' && first <= 'z') {
                takeWord();
            } else if (first >= '0' && first <= '9') {
                takeWhole();
            } else if (first == ';' || first == ',' || first == '-') {
                kind = first;
                next++;
            } else {
                kind = NO_TOKEN;
            }
        }

        /** Letters that stand together are one word or none: seven of them begin no token. */
        private void takeWord() {
            while (next < end && bytes[next] >= 'a' && bytes[next] <= 'z') {
                value = (value << LETTER_BITS) + bytes[next] - 'a' + 1;
                next++;
            }
            kind = next - place <= MOST_LETTERS ? WORD : NO_TOKEN;
        }

        private void takeWhole() {
            while (next < end && bytes[next] >= '0' && bytes[next] <= '9') {
                value = value * 10 + bytes[next] - '0';
                next++;
            }
            kind = next - place <= MOST_DIGITS ? WHOLE : NO_TOKEN;
        }
    }

    /** The chain of a cone, gone through number by number. */
    private static final class Chain {
        private int last;
        private int current;
        private int bound;

        void start(int turn, int kind) {
            last = turn;
            current = kind;
            bound = turn;
        }

        boolean goesOn() {
            return current > 0;
        }

        /** The next number; 0 behind the last one. */
        int step() {
            if (current <= 0) {
                return 0;
            }
            int times = (int) Whole.floorBy((long) last + current - 1, current);
            int following = times * current - last;
            last = current;
            current = following;
            return times;
        }

        int countAll() {
            int count = 0;
            // The numbers A fall from the turn to 0, so there are fewer than the turn.
            while (goesOn() && count < bound) {
                step();
                count++;
            }
            return count;
        }

        boolean skipTo(int k) {
            for (int i = 0; i < k && i < bound && goesOn(); i++) {
                step();
            }
            return goesOn();
        }
    }

    /** Rays as they stand around, and the numbers of the loads on them. */
    private static final class Fan {
        static final int MOST_RAYS = 24;
        static final int MOST_LOADS = 6;
        static final int MOST_PLACE = 60;
        static final int MOST_TOLD = 20;

        private static final int MOST_HELD = 2000;
        private static final int MOST_MEASURE = 1000000;
        private static final int FEWEST_RAYS = 3;

        int count;
        int loads;

        private final int[] xs = new int[MOST_RAYS];
        private final int[] ys = new int[MOST_RAYS];
        private final int[] numbers = new int[MOST_LOADS * MOST_RAYS];

        void copyFrom(Fan other) {
            count = other.count;
            loads = other.loads;
            System.arraycopy(other.xs, 0, xs, 0, MOST_RAYS);
            System.arraycopy(other.ys, 0, ys, 0, MOST_RAYS);
            System.arraycopy(other.numbers, 0, numbers, 0, MOST_LOADS * MOST_RAYS);
        }

        void build(Tape text) {
            count = 0;
            loads = text.loadCount;
            for (int ray = 0; ray < text.rayCount && ray < text.xs.length; ray++) {
                int at = open(text.xs[ray], text.ys[ray]);
                for (int d = 0; d < loads; d++) {
                    put(d, at, text.numberOf(d, ray));
                }
            }
        }

        boolean isClosed() {
            if (count < FEWEST_RAYS) {
                return false;
            }
            for (int i = 0; i < count; i++) {
                if (turn(i) <= 0) {
                    return false;
                }
            }
            return true;
        }

        int x(int i) {
            return i >= 0 && i < MOST_RAYS ? xs[i] : 0;
        }

        int y(int i) {
            return i >= 0 && i < MOST_RAYS ? ys[i] : 0;
        }

        int number(int d, int i) {
            int at = d * MOST_RAYS + i;
            return at >= 0 && at < numbers.length ? numbers[at] : 0;
        }

        void put(int d, int i, int v) {
            int at = d * MOST_RAYS + i;
            if (at >= 0 && at < numbers.length) {
                numbers[at] = v;
            }
        }

        int behind(int i) {
            return i + 1 >= count ? 0 : i + 1;
        }

        int ahead(int i) {
            return i <= 0 ? count - 1 : i - 1;
        }

        int turn(int i) {
            return turnBetween(i, behind(i));
        }

        private int turnBetween(int i, int j) {
            return x(i) * y(j) - y(i) * x(j);
        }

        private int turnAround(int i) {
            return turnBetween(ahead(i), behind(i));
        }

        /**
         * With s a + t b = 1 of ray i (a, b) and the ray behind it (c, d): what makes Q (a, b) and (c, d) a multiple
         * of the turn makes Q and s c + t d one. That saves trying each Q, of which there may be thousands.
         */
        int kind(int i) {
            int j = behind(i);
            int s = Whole.firstFactor(x(i), y(i));
            long t = y(i) == 0 ? 0 : Whole.by(1 - (long) s * x(i), y(i));
            return (int) Whole.rest(-(s * (long) x(j) + t * y(j)), turn(i));
        }

        int wholeCones() {
            int whole = 0;
            for (int i = 0; i < count; i++) {
                whole += turn(i) == 1 ? 1 : 0;
            }
            return whole;
        }

        int greatestTurn() {
            int greatest = 0;
            for (int i = 0; i < count; i++) {
                greatest = Math.max(greatest, turn(i));
            }
            return greatest;
        }

        int index() {
            long common = 0;
            for (int i = 0; i < count; i++) {
                for (int j = 0; j < i; j++) {
                    common = Whole.common(common, turnBetween(i, j));
                }
            }
            return (int) common;
        }

        /** The least common multiple of all turns; NONE if it is too great. */
        long commonTurn() {
            long multiple = 1;
            for (int i = 0; i < count; i++) {
                long turn = turn(i);
                multiple = Whole.by(multiple, Whole.common(multiple, turn)) * turn;
                if (multiple > MOST_MEASURE) {
                    return NONE;
                }
            }
            return multiple;
        }

        boolean canGo(int i) {
            return count > FEWEST_RAYS && turnAround(i) > 0;
        }

        private boolean isLight(int i) {
            int j = ahead(i);
            int k = behind(i);
            return canGo(i) && x(i) == x(j) + x(k) && y(i) == y(j) + y(k);
        }

        int goers() {
            int bits = 0;
            for (int i = 0; i < count; i++) {
                bits |= canGo(i) ? 1 << i : 0;
            }
            return bits;
        }

        int lights() {
            int bits = 0;
            for (int i = 0; i < count; i++) {
                bits |= isLight(i) ? 1 << i : 0;
            }
            return bits;
        }

        int firstLight() {
            for (int i = 0; i < count; i++) {
                if (isLight(i)) {
                    return i;
                }
            }
            return NONE;
        }

        /** The cone of (x, y), which is told by both sides as no cone has half a turn; 0 for (0, 0). */
        int coneOf(int x, int y) {
            for (int i = 0; i < count; i++) {
                int j = behind(i);
                if (x(i) * y - y(i) * x >= 0 && x * y(j) - y * x(j) > 0) {
                    return i;
                }
            }
            return 0;
        }

        /** The function at (x, y) of cone i, times the turn of that cone. */
        long functionTimesTurn(int d, int i, int x, int y) {
            int j = behind(i);
            long first = (long) x * y(j) - (long) y * x(j);
            long second = (long) x(i) * y - (long) y(i) * x;
            return first * number(d, i) + second * number(d, j);
        }

        long pieceAlong(int d, int i) {
            int j = behind(i);
            return (long) number(d, j) * y(i) - (long) number(d, i) * y(j);
        }

        long pieceUp(int d, int i) {
            int j = behind(i);
            return (long) number(d, i) * x(j) - (long) number(d, j) * x(i);
        }

        boolean isPieceWhole(int d, int i) {
            int turn = turn(i);
            return Whole.rest(pieceAlong(d, i), turn) == 0 && Whole.rest(pieceUp(d, i), turn) == 0;
        }

        int brokenPieces(int d) {
            int bits = 0;
            for (int i = 0; i < count; i++) {
                bits |= isPieceWhole(d, i) ? 0 : 1 << i;
            }
            return bits;
        }

        int bending(int d) {
            int bending = 2;
            for (int i = 0; i < count; i++) {
                // Times both turns beside the ray, so that no measure is needed for the sign.
                long meeting = (long) number(d, ahead(i)) * turn(i) + (long) number(d, behind(i)) * turn(ahead(i))
                        - (long) number(d, i) * turnAround(i);
                bending = Math.min(bending, meeting > 0 ? 2 : meeting == 0 ? 1 : 0);
            }
            return bending;
        }

        /** Whether the numbers of d less those of e are m x + n y with whole m, n: cone 0 leaves only one such. */
        boolean differWholly(int d, int e) {
            int turn = turn(0);
            long m = pieceAlong(e, 0) - pieceAlong(d, 0);
            long n = pieceUp(e, 0) - pieceUp(d, 0);
            if (Whole.rest(m, turn) != 0 || Whole.rest(n, turn) != 0) {
                return false;
            }
            m = Whole.by(m, turn);
            n = Whole.by(n, turn);
            for (int i = 0; i < count; i++) {
                if (number(d, i) - number(e, i) != m * x(i) + n * y(i)) {
                    return false;
                }
            }
            return true;
        }

        long raysMeet(int i, int j, long measure) {
            if (i == j) {
                return -Whole.by(turnAround(i) * measure, (long) turn(ahead(i)) * turn(i));
            }
            if (behind(i) == j) {
                return Whole.by(measure, turn(i));
            }
            return behind(j) == i ? Whole.by(measure, turn(j)) : 0;
        }

        long loadMeetsRay(int d, int i, long measure) {
            int j = ahead(i);
            int k = behind(i);
            return number(d, j) * raysMeet(j, i, measure) + number(d, i) * raysMeet(i, i, measure)
                    + number(d, k) * raysMeet(i, k, measure);
        }

        long loadsMeet(int d, int e, long measure) {
            long sum = 0;
            for (int i = 0; i < count; i++) {
                sum += number(e, i) * loadMeetsRay(d, i, measure);
            }
            return sum;
        }

        boolean addLoad(int d, int e, int times) {
            boolean fits = true;
            for (int i = 0; i < count; i++) {
                int sum = number(d, i) + times * number(e, i);
                fits = fits && isHeld(sum);
                put(d, i, sum);
            }
            return fits;
        }

        boolean addWhole(int d, int m, int n) {
            boolean fits = true;
            for (int i = 0; i < count; i++) {
                int sum = number(d, i) + m * x(i) + n * y(i);
                fits = fits && isHeld(sum);
                put(d, i, sum);
            }
            return fits;
        }

        /** Puts (x, y), of cone i of an older fan, among the rays: its number here, or NONE without room. */
        int insert(Fan old, int i, int x, int y) {
            if (count >= MOST_RAYS || Whole.isBeyond(x, MOST_PLACE) || Whole.isBeyond(y, MOST_PLACE)) {
                return NONE;
            }
            int at = open(x, y);
            for (int d = 0; d < loads; d++) {
                long number = Whole.floorBy(old.functionTimesTurn(d, i, x, y), old.turn(i));
                if (!isHeld(number)) {
                    return NONE;
                }
                put(d, at, (int) number);
            }
            return at;
        }

        void remove(int i) {
            for (int k = i; k + 1 < count; k++) {
                move(k + 1, k);
            }
            count--;
        }

        /** A place for a new ray where it stands around, which may be ahead of all of them. */
        private int open(int x, int y) {
            int at = 0;
            while (at < count && comesBefore(x(at), y(at), x, y)) {
                at++;
            }
            if (count >= MOST_RAYS || at >= MOST_RAYS) {
                return NONE;
            }
            for (int k = count; k > at; k--) {
                move(k - 1, k);
            }
            xs[at] = x;
            ys[at] = y;
            count++;
            return at;
        }

        private void move(int from, int to) {
            if (from < 0 || to < 0 || from >= MOST_RAYS || to >= MOST_RAYS) {
                return;
            }
            xs[to] = xs[from];
            ys[to] = ys[from];
            for (int d = 0; d < loads; d++) {
                put(d, to, number(d, from));
            }
        }

        private static boolean isHeld(long number) {
            return !Whole.isBeyond(number, MOST_HELD);
        }

        private static boolean comesBefore(int a, int b, int c, int d) {
            boolean isUpper = isInFirstHalf(a, b);
            if (isUpper != isInFirstHalf(c, d)) {
                return isUpper;
            }
            return a * d - b * c > 0;
        }

        private static boolean isInFirstHalf(int x, int y) {
            return y > 0 || y == 0 && x > 0;
        }
    }

    /**
     * The whole points that a load leaves. They are counted by columns (one m, all n) with sums in closed form,
     * as a polygon may be a million columns wide.
     */
    private static final class Polygon {
        private static final long WIDEST = 10000000;
        private static final int MOST_HALVINGS = 64;
        private static final int DOWN = 1;
        private static final int UP = -1;

        private final int[] xs = new int[Fan.MOST_RAYS];
        private final int[] ys = new int[Fan.MOST_RAYS];
        private final long[] reach = new long[Fan.MOST_RAYS];
        private int count;
        private long first;
        private long last;

        /** Frames k times load d and counts; less is 1 for inner points: above a whole number is 1 more, or above. */
        long countAll(Fan fan, int d, int k, int less) {
            count = Math.min(fan.count, Fan.MOST_RAYS);
            for (int i = 0; i < count; i++) {
                xs[i] = fan.x(i);
                ys[i] = fan.y(i);
                reach[i] = (long) k * fan.number(d, i) - less;
            }
            limitColumns();
            return countTo(last);
        }

        /** The m of the i-th point of what was counted last; it must be there. */
        long columnOf(long i) {
            long low = first;
            long high = last;
            for (int halvings = 0; halvings < MOST_HALVINGS && low < high; halvings++) {
                long middle = Math.floorDiv(low + high, 2L);
                if (countTo(middle) > i) {
                    high = middle;
                } else {
                    low = middle + 1;
                }
            }
            return low;
        }

        /** The n of the i-th point, whose m is told. */
        long heightOf(long i, long m) {
            int line = leastLine(DOWN, m);
            if (line == NONE) {
                return 0;
            }
            return i - countTo(m - 1) - Whole.floorBy(topOf(line, m), ys[line]);
        }

        /** Two rays of different sides bound n from below and from above; that leaves a bound for m alone. */
        private void limitColumns() {
            first = -WIDEST;
            last = WIDEST;
            for (int i = 0; i < count; i++) {
                if (ys[i] == 0) {
                    limit(xs[i], reach[i]);
                }
                for (int j = 0; j < count && ys[i] > 0; j++) {
                    if (ys[j] < 0) {
                        limit((long) xs[j] * ys[i] - (long) xs[i] * ys[j], reach[j] * ys[i] - reach[i] * ys[j]);
                    }
                }
            }
        }

        /** So many times m must be 0 less far, or more. */
        private void limit(long times, long far) {
            if (times > 0) {
                first = Math.max(first, -Whole.floorBy(far, times));
            } else if (times < 0) {
                last = Math.min(last, Whole.floorBy(far, -times));
            } else if (far < 0) {
                last = -WIDEST - 1;
            }
        }

        private long countTo(long m) {
            long to = Math.min(m, last);
            if (to < first) {
                return 0;
            }
            return sumOfSide(DOWN, to) + sumOfSide(UP, to) + to - first + 1;
        }

        /**
         * The sum over columns of how far n may go up or down from 0: the least that the rays of that side leave,
         * which is one ray's over a run of columns, then another's.
         */
        private long sumOfSide(int side, long to) {
            long sum = 0;
            long m = first;
            for (int runs = 0; runs < Fan.MOST_RAYS && m <= to; runs++) {
                int line = leastLine(side, m);
                if (line == NONE) {
                    return sum;
                }
                long end = endOfRun(side, line, to);
                sum += Whole.floorSum(end - m + 1, ys[line] * side, xs[line], topOf(line, m));
                m = end + 1;
            }
            return sum;
        }

        /** What ray i leaves in column m, times its y without a sign. */
        private long topOf(int i, long m) {
            return i >= 0 && i < Fan.MOST_RAYS ? reach[i] + m * xs[i] : 0;
        }

        /** The ray of a side that leaves least in column m; of two alike the one that leaves less behind it. */
        private int leastLine(int side, long m) {
            int least = NONE;
            for (int i = 0; i < count; i++) {
                if (ys[i] * side > 0 && (least == NONE || isLess(i, least, side, m))) {
                    least = i;
                }
            }
            return least;
        }

        private boolean isLess(int i, int j, int side, long m) {
            if (i < 0 || j < 0 || i >= Fan.MOST_RAYS || j >= Fan.MOST_RAYS) {
                return false;
            }
            long difference = (topOf(i, m) * ys[j] - topOf(j, m) * ys[i]) * side;
            return difference < 0 || difference == 0 && fall(i, j, side) > 0;
        }

        /** Above 0, if what ray i leaves falls behind what ray j of the same side leaves, as m grows. */
        private long fall(int i, int j, int side) {
            if (i < 0 || j < 0 || i >= Fan.MOST_RAYS || j >= Fan.MOST_RAYS) {
                return 0;
            }
            return ((long) xs[j] * ys[i] - (long) xs[i] * ys[j]) * side;
        }

        private long endOfRun(int side, int line, long to) {
            if (line < 0 || line >= Fan.MOST_RAYS) {
                return to;
            }
            long end = to;
            for (int i = 0; i < count; i++) {
                long fall = ys[i] * side > 0 ? fall(i, line, side) : 0;
                if (fall > 0) {
                    long gap = (reach[i] * ys[line] - reach[line] * ys[i]) * side;
                    end = Math.min(end, Whole.floorBy(gap, fall));
                }
            }
            return end;
        }
    }
}
