/**
 * Who answers a call: KINDS in LINES, the NAMES they HAVE, the tables of their ANSWERS, and
 * PLACES that remember. Every call answers a number; refused calls answer a negative one.
 */
public final class AnswerLines {
    public static final int UNKNOWN = -1, OUTSIDE = -2, STATE = -3, FULL = -4, NO = -5, NONE = -6;

    private static final int MOST_KINDS = 10;
    private static final int MOST_PARENTS = 3;
    private static final int MOST_NAMES = 8;
    private static final int MOST_SIGNS = 12;
    private static final int FIRST_SIGN = 33;
    private static final int LAST_SIGN = 126;
    private static final int MOST_SLOTS = 100;
    private static final int MOST_PLACES = 4;
    private static final int MOST_SIZE = 4;
    private static final int MOST_CALLS = 40;

    private final Kinds kinds;
    private final Pad pad;
    private final Bodies bodies;
    private final Runner runner;
    private final Table table;
    private final Places places;

    public AnswerLines() {
        kinds = new Kinds();
        pad = new Pad();
        bodies = new Bodies();
        runner = new Runner();
        table = new Table();
        places = new Places();
    }

    // ---- 1 kinds

    public int kind(int n, int a, int b, int c) {
        // UNKNOWN comes ahead of OUTSIDE: a wrong PARENT is refused first, however great n is.
        if (n >= 1 && !kinds.knows(a)) return UNKNOWN;
        if (n >= 2 && (!kinds.knows(b) || b == a)) return UNKNOWN;
        if (n >= 3 && (!kinds.knows(c) || c == a || c == b)) return UNKNOWN;
        if (n < 0 || n > MOST_PARENTS) return OUTSIDE;
        if (kinds.isFull()) return FULL;
        return kinds.add(n, a, b, c);
    }

    public int bare(int kind, boolean is) {
        if (!kinds.knows(kind)) return UNKNOWN;
        int was = kinds.isBare(kind) ? 1 : 0;
        kinds.setBare(kind, is);
        return was;
    }

    public int of(int kind, int what) {
        if (!kinds.knows(kind)) return UNKNOWN;
        if (what == 0) return kinds.aboveOf(kind);
        if (what == 1) return kinds.belowOf(kind);
        return OUTSIDE;
    }

    public int line(int kind, int i) {
        if (!kinds.knows(kind)) return UNKNOWN;
        if (!kinds.isLaid(kind)) return STATE;
        if (i == -1) return kinds.lengthOf(kind);
        return kinds.inLine(kind, i);
    }

    public int quarrel(int kind) {
        if (!kinds.knows(kind)) return UNKNOWN;
        return kinds.quarrelOf(kind);
    }

    // ---- 2 answers, runs

    public int say(int sign) {
        if (sign < FIRST_SIGN || sign > LAST_SIGN) return OUTSIDE;
        if (pad.isFull()) return FULL;
        return pad.put(sign);
    }

    public int wipe() {
        return pad.empty();
    }

    public int fault() {
        return pad.firstFault();
    }

    public int has(int kind, int name) {
        if (!kinds.knows(kind) || !isName(name)) return UNKNOWN;
        if (pad.firstFault() != NONE) return NO;
        int fresh = bodies.isOwner(kind, name) ? 0 : 1;
        bodies.give(kind, name, pad);
        pad.empty();
        return fresh;
    }

    public int drop(int kind, int name) {
        if (!kinds.knows(kind) || !isName(name)) return UNKNOWN;
        if (!bodies.isOwner(kind, name)) return NO;
        return bodies.takeAway(kind, name);
    }

    public int answer(int kind, int name) {
        if (!kinds.knows(kind) || !isName(name)) return UNKNOWN;
        if (!kinds.isLaid(kind)) return STATE;
        return kinds.firstOf(kind, bodies.ownersOf(name), 0);
    }

    public int next(int kind, int name, int behind) {
        if (!kinds.knows(kind) || !isName(name) || !kinds.knows(behind)) return UNKNOWN;
        if (!kinds.isLaid(kind)) return STATE;
        int at = kinds.whereFirst(kind, 1 << behind, 0);
        if (at == NONE) return UNKNOWN;
        return kinds.firstOf(kind, bodies.ownersOf(name), at + 1);
    }

    public int run(int kind, int name, int i) {
        if (!kinds.knows(kind) || !isName(name)) return UNKNOWN;
        if (!kinds.isLaid(kind)) return STATE;
        int end = runner.start(kinds, bodies, kind, name);
        if (i == -1) return end;
        if (i == -2) return runner.howManySaid();
        return runner.digit(i);
    }

    // ---- 3 nearest ones

    public int nearest(int kind, int name) {
        if (!kinds.knows(kind) || !isName(name)) return UNKNOWN;
        return Sides.nearestOf(kinds, kind, bodies.ownersOf(name));
    }

    public int doubt(int name) {
        if (!isName(name)) return UNKNOWN;
        return Sides.doubtful(kinds, bodies.ownersOf(name));
    }

    public int settle(int name, int what) {
        if (!isName(name)) return UNKNOWN;
        if (what != 0 && what != 1) return OUTSIDE;
        return bitsOrCount(Sides.settlers(kinds, bodies.ownersOf(name)), what);
    }

    public int shift(int kind, int name) {
        if (!kinds.knows(kind) || !isName(name)) return UNKNOWN;
        if (bodies.isOwner(kind, name)) return NO;
        return Sides.shifted(kinds, kind, bodies.ownersOf(name));
    }

    // ---- 4 tables

    public int column(int name) {
        if (name != -1 && !isName(name)) return UNKNOWN;
        table.fill(kinds, bodies);
        int columns = table.spread();
        return name == -1 ? columns : table.columnOf(name);
    }

    public int packed(int kind) {
        if (kind != -1 && !kinds.knows(kind)) return UNKNOWN;
        table.fill(kinds, bodies);
        int length = table.push();
        return kind == -1 ? length : table.placeOfRow(kind);
    }

    public int slot(int place) {
        if (place < 0 || place >= MOST_SLOTS) return OUTSIDE;
        table.fill(kinds, bodies);
        table.push();
        return table.standsAt(place);
    }

    public int one(int kind, int name, int what) {
        if (!kinds.knows(kind) || !isName(name)) return UNKNOWN;
        if (what != 0 && what != 1) return OUTSIDE;
        return bitsOrCount(Sides.unlikeAnswers(kinds, kind, bodies.ownersOf(name)), what);
    }

    // ---- 5 places

    public int call(int place, int kind) {
        if (!isPlace(place) || !kinds.knows(kind)) return UNKNOWN;
        if (places.isFull()) return FULL;
        return places.record(place, kind);
    }

    public int forget() {
        return places.clear();
    }

    public int size(int place, int v) {
        if (!isPlace(place)) return UNKNOWN;
        if (v < 1 || v > MOST_SIZE) return OUTSIDE;
        return places.resize(place, v);
    }

    public int hits(int place, int what) {
        if (!isPlace(place)) return UNKNOWN;
        if (what == 0) return places.callsAt(place);
        if (what == 1) return places.hitsBySize(place, places.sizeOf(place));
        if (what == 2) return places.bestHits(place);
        if (what < 10 || what >= 10 + MOST_SIZE) return OUTSIDE;
        places.hitsBySize(place, places.sizeOf(place));
        return places.latest(what - 10);
    }

    public int need(int place, int hits) {
        if (!isPlace(place)) return UNKNOWN;
        if (hits < 0 || hits > MOST_CALLS) return OUTSIDE;
        for (int v = 1; v <= MOST_SIZE; v++) {
            if (places.hitsBySize(place, v) >= hits) return v;
        }
        return NONE;
    }

    public int told(int what) {
        if (what == 0) return kinds.howMany();
        if (what == 1) return pad.length();
        if (what == 2) return places.howMany();
        if (what >= 10 && what < 10 + MOST_KINDS) return bodies.namesOf(what - 10);
        if (what >= 20 && what < 20 + MOST_KINDS) return kinds.isBare(what - 20) ? 1 : 0;
        return OUTSIDE;
    }

    private static boolean isName(int name) {
        return name >= 0 && name < MOST_NAMES;
    }

    private static boolean isPlace(int place) {
        return place >= 0 && place < MOST_PLACES;
    }

    private static int bitsOrCount(int bits, int what) {
        return what == 0 ? bits : Integer.bitCount(bits);
    }

    private static boolean isIn(int kind, int bits) {
        return (bits >> kind & 1) != 0;
    }

    /** KINDS with all ABOVE them, and their LINES, each laid once: later KINDS never change it. */
    private static final class Kinds {
        private final int[] above = new int[MOST_KINDS];
        private final int[] lengths = new int[MOST_KINDS];
        private final int[] quarrels = new int[MOST_KINDS];
        private final int[] lines = new int[MOST_KINDS * MOST_KINDS];
        private final int[] parents = new int[MOST_PARENTS];
        private final Rows rows = new Rows();
        private int count;
        private int bareBits;

        boolean knows(int kind) {
            return kind >= 0 && kind < count;
        }

        boolean isFull() {
            return count >= MOST_KINDS;
        }

        int howMany() {
            return count;
        }

        boolean isBare(int kind) {
            return knows(kind) && isIn(kind, bareBits);
        }

        void setBare(int kind, boolean is) {
            if (!knows(kind)) return;
            bareBits = is ? bareBits | 1 << kind : bareBits & ~(1 << kind);
        }

        int aboveOf(int kind) {
            return knows(kind) ? above[kind] : 0;
        }

        int belowOf(int kind) {
            int below = 0;
            for (int other = 0; other < count; other++) {
                if (isIn(kind, above[other])) below |= 1 << other;
            }
            return below;
        }

        int quarrelOf(int kind) {
            return knows(kind) ? quarrels[kind] : NONE;
        }

        boolean isLaid(int kind) {
            return lengthOf(kind) > 0;
        }

        /** Whether THE TABLE has a row for it: there are things of it, and it has a LINE. */
        boolean hasRow(int kind) {
            return isLaid(kind) && !isBare(kind);
        }

        /** 0 for a KIND without a LINE: a LINE has at least the KIND itself. */
        int lengthOf(int kind) {
            return knows(kind) ? lengths[kind] : 0;
        }

        int inLine(int kind, int i) {
            if (i < 0 || i >= lengthOf(kind)) return NONE;
            return lines[kind * MOST_KINDS + i];
        }

        /** Where in THE LINE, at from or behind it, the first of the wanted KINDS stands. */
        int whereFirst(int kind, int wanted, int from) {
            int length = lengthOf(kind);
            for (int i = Math.max(from, 0); i < length; i++) {
                if (isIn(lines[kind * MOST_KINDS + i], wanted)) return i;
            }
            return NONE;
        }

        int firstOf(int kind, int wanted, int from) {
            return inLine(kind, whereFirst(kind, wanted, from));
        }

        int add(int n, int a, int b, int c) {
            if (isFull() || n < 0 || n > MOST_PARENTS) return FULL;
            int kind = count;
            parents[0] = a;
            parents[1] = b;
            parents[2] = c;
            above[kind] = 0;
            boolean laid = true;
            for (int i = 0; i < n; i++) {
                above[kind] |= 1 << parents[i] | aboveOf(parents[i]);
                if (!isLaid(parents[i])) laid = false;
            }
            lengths[kind] = 0;
            quarrels[kind] = NO;
            if (laid) layLine(kind, n);
            count++;
            return kind;
        }

        private void layLine(int kind, int n) {
            layRows(n);
            lines[kind * MOST_KINDS] = kind;
            int length = 1;
            int free = rows.firstFree();
            while (free != NONE && length < MOST_KINDS) {
                rows.take(free);
                lines[kind * MOST_KINDS + length] = free;
                length++;
                free = rows.firstFree();
            }
            int heads = rows.beginnings();
            quarrels[kind] = heads == 0 ? NONE : heads;
            lengths[kind] = heads == 0 ? length : 0;
        }

        private void layRows(int n) {
            rows.clear();
            for (int i = 0; i < n; i++) {
                rows.begin();
                int length = lengthOf(parents[i]);
                for (int j = 0; j < length; j++) rows.put(inLine(parents[i], j));
            }
            rows.begin();
            for (int i = 0; i < n; i++) rows.put(parents[i]);
        }
    }

    /** The rows that are merged into a LINE: a row for each PARENT and one for the PARENTS. */
    private static final class Rows {
        private static final int MOST_ROWS = MOST_PARENTS + 1;

        private final int[] cells = new int[MOST_ROWS * MOST_KINDS];
        private final int[] heads = new int[MOST_ROWS];
        private final int[] lengths = new int[MOST_ROWS];
        private int count;

        void clear() {
            count = 0;
        }

        void begin() {
            if (count >= MOST_ROWS) return;
            heads[count] = 0;
            lengths[count] = 0;
            count++;
        }

        void put(int kind) {
            int row = count - 1;
            if (row < 0 || lengths[row] >= MOST_KINDS) return;
            cells[row * MOST_KINDS + lengths[row]] = kind;
            lengths[row]++;
        }

        /** The KINDS with which rows begin, as bits; 0 when all rows are empty. */
        int beginnings() {
            int bits = 0;
            for (int row = 0; row < count; row++) {
                int head = head(row);
                if (head != NONE) bits |= 1 << head;
            }
            return bits;
        }

        int firstFree() {
            int held = 0;
            for (int row = 0; row < count; row++) held |= tail(row);
            for (int row = 0; row < count; row++) {
                int head = head(row);
                if (head != NONE && !isIn(head, held)) return head;
            }
            return NONE;
        }

        /** A free KIND stands nowhere but at beginnings, so taking it is stepping over them. */
        void take(int kind) {
            for (int row = 0; row < count; row++) {
                if (head(row) == kind) heads[row]++;
            }
        }

        private int head(int row) {
            return heads[row] < lengths[row] ? cells[row * MOST_KINDS + heads[row]] : NONE;
        }

        private int tail(int row) {
            int bits = 0;
            for (int i = heads[row] + 1; i < lengths[row]; i++) bits |= 1 << cells[row * MOST_KINDS + i];
            return bits;
        }
    }

    /** The PAD: the signs of the next BODY. */
    private static final class Pad {
        private final char[] signs = new char[MOST_SIGNS];
        private int count;

        boolean isFull() {
            return count >= MOST_SIGNS;
        }

        int length() {
            return count;
        }

        int put(int sign) {
            if (isFull()) return FULL;
            signs[count] = (char) sign;
            count++;
            return count;
        }

        int empty() {
            int were = count;
            count = 0;
            return were;
        }

        char sign(int i) {
            return i >= 0 && i < count ? signs[i] : 0;
        }

        int firstFault() {
            for (int i = 0; i < count; i++) {
                if (!canStand(signs[i])) return i;
            }
            return NONE;
        }

        private static boolean canStand(char sign) {
            return sign >= '0' && sign <= '9' || sign >= 'a' && sign <= 'h' || sign == '^';
        }
    }

    /** Which KINDS HAVE which NAMES, and with which BODIES. */
    private static final class Bodies {
        private final int[] owners = new int[MOST_NAMES];
        private final int[] lengths = new int[MOST_KINDS * MOST_NAMES];
        private final char[] signs = new char[MOST_KINDS * MOST_NAMES * MOST_SIGNS];

        /** The KINDS that HAVE a NAME, as bits. */
        int ownersOf(int name) {
            return isName(name) ? owners[name] : 0;
        }

        boolean isOwner(int kind, int name) {
            return isIn(kind, ownersOf(name));
        }

        int namesOf(int kind) {
            int names = 0;
            for (int name = 0; name < MOST_NAMES; name++) {
                if (isOwner(kind, name)) names |= 1 << name;
            }
            return names;
        }

        void give(int kind, int name, Pad pad) {
            if (!isBody(kind, name)) return;
            int body = kind * MOST_NAMES + name;
            int length = Math.min(pad.length(), MOST_SIGNS);
            for (int i = 0; i < length; i++) signs[body * MOST_SIGNS + i] = pad.sign(i);
            lengths[body] = length;
            owners[name] |= 1 << kind;
        }

        int takeAway(int kind, int name) {
            if (!isBody(kind, name)) return NO;
            owners[name] &= ~(1 << kind);
            return lengths[kind * MOST_NAMES + name];
        }

        int lengthOf(int kind, int name) {
            return isBody(kind, name) ? lengths[kind * MOST_NAMES + name] : 0;
        }

        char sign(int kind, int name, int i) {
            if (i < 0 || i >= lengthOf(kind, name)) return 0;
            return signs[(kind * MOST_NAMES + name) * MOST_SIGNS + i];
        }

        private static boolean isBody(int kind, int name) {
            return kind >= 0 && kind < MOST_KINDS && isName(name);
        }
    }

    /** Works BODIES. The RUN itself is the first call: it counts among those a call is within or behind. */
    private static final class Runner {
        private static final int ALL_WORKED = 0;
        private static final int NOBODY = 1;
        private static final int TOO_MUCH = 2;
        private static final int MOST_OPEN = 9;
        private static final int MOST_MADE = 200;
        private static final int MOST_SAID = 40;

        private final int[] digits = new int[MOST_SAID];
        private int said;
        private int made;
        private int lined;

        int start(Kinds kinds, Bodies bodies, int kind, int name) {
            said = 0;
            made = 0;
            lined = kind;
            return work(kinds, bodies, name, 0, 0);
        }

        int howManySaid() {
            return said;
        }

        int digit(int i) {
            return i >= 0 && i < said ? digits[i] : NONE;
        }

        /** A call of a NAME, answered from a place of THE LINE on: how it ends. */
        private int work(Kinds kinds, Bodies bodies, int name, int from, int open) {
            if (open >= MOST_OPEN || made >= MOST_MADE) return TOO_MUCH;
            made++;
            int at = kinds.whereFirst(lined, bodies.ownersOf(name), from);
            if (at == NONE) return NOBODY;
            int owner = kinds.inLine(lined, at);
            int length = bodies.lengthOf(owner, name);
            int end = ALL_WORKED;
            for (int i = 0; i < length && end == ALL_WORKED; i++) {
                char sign = bodies.sign(owner, name, i);
                if (sign >= '0' && sign <= '9') end = sayDigit(sign - '0');
                else if (sign == '^') end = work(kinds, bodies, name, at + 1, open + 1);
                else end = work(kinds, bodies, sign - 'a', 0, open + 1);
            }
            return end;
        }

        private int sayDigit(int digit) {
            if (said >= MOST_SAID) return TOO_MUCH;
            digits[said] = digit;
            said++;
            return ALL_WORKED;
        }
    }

    /** What hangs on who HAS a NAME: owners are the KINDS that do, as bits. */
    private static final class Sides {
        static int nearestOf(Kinds kinds, int kind, int owners) {
            int near = owners & (kinds.aboveOf(kind) | 1 << kind);
            int hidden = 0;
            for (int other = 0; other <= kind && other < MOST_KINDS; other++) {
                if (isIn(other, near)) hidden |= kinds.aboveOf(other);
            }
            return near & ~hidden;
        }

        static int doubtful(Kinds kinds, int owners) {
            int bits = 0;
            int count = kinds.howMany();
            for (int kind = 0; kind < count; kind++) {
                if (isInDoubt(kinds, kind, owners)) bits |= 1 << kind;
            }
            return bits;
        }

        /**
         * A KIND in DOUBT whose ABOVE ones are settled has to HAVE the NAME itself: one ABOVE it that would
         * join its NEAREST ones would be in DOUBT as well. So there is only one fewest way, found upwards.
         */
        static int settlers(Kinds kinds, int owners) {
            int added = 0;
            int count = kinds.howMany();
            for (int kind = 0; kind < count; kind++) {
                if (isInDoubt(kinds, kind, owners | added)) added |= 1 << kind;
            }
            return added;
        }

        /** A KIND without a LINE has no first one either way, so it never shifts. */
        static int shifted(Kinds kinds, int kind, int owners) {
            int bits = 0;
            int count = kinds.howMany();
            for (int other = 0; other < count; other++) {
                int old = kinds.firstOf(other, owners, 0);
                if (kinds.firstOf(other, owners | 1 << kind, 0) != old) bits |= 1 << other;
            }
            return bits;
        }

        static int unlikeAnswers(Kinds kinds, int kind, int owners) {
            int called = kinds.belowOf(kind) | 1 << kind;
            int bits = 0;
            int count = kinds.howMany();
            for (int other = 0; other < count; other++) {
                if (!isIn(other, called) || !kinds.hasRow(other)) continue;
                int first = kinds.firstOf(other, owners, 0);
                if (first != NONE) bits |= 1 << first;
            }
            return bits;
        }

        private static boolean isInDoubt(Kinds kinds, int kind, int owners) {
            return Integer.bitCount(nearestOf(kinds, kind, owners)) >= 2;
        }
    }

    /** THE TABLE, made anew for each question: its COLUMNS, and its rows PACKED. */
    private static final class Table {
        private final int[] rows = new int[MOST_KINDS];
        private final int[] together = new int[MOST_NAMES];
        private final int[] columns = new int[MOST_NAMES];
        private final int[] pushedTo = new int[MOST_KINDS];
        private final int[] slots = new int[MOST_SLOTS];

        /** The NAMES with an ANSWER for each KIND, as bits; none for KINDS that have no row. */
        void fill(Kinds kinds, Bodies bodies) {
            for (int kind = 0; kind < MOST_KINDS; kind++) {
                rows[kind] = 0;
                if (!kinds.hasRow(kind)) continue;
                for (int name = 0; name < MOST_NAMES; name++) {
                    if (kinds.firstOf(kind, bodies.ownersOf(name), 0) != NONE) rows[kind] |= 1 << name;
                }
            }
        }

        /** How many COLUMNS; which one each NAME has is kept. */
        int spread() {
            findTogether();
            for (int limit = 0; limit <= MOST_NAMES; limit++) {
                if (fitInto(limit, 0, 0)) return limit;
            }
            return MOST_NAMES;
        }

        int columnOf(int name) {
            return isName(name) ? columns[name] : NONE;
        }

        /** LENGTH; where the rows go and what fills the places is kept. */
        int push() {
            for (int i = 0; i < MOST_SLOTS; i++) slots[i] = NONE;
            int length = 0;
            for (int kind = 0; kind < MOST_KINDS; kind++) {
                pushedTo[kind] = NONE;
                if (rows[kind] != 0) length = Math.max(length, pushRow(kind));
            }
            return length;
        }

        int placeOfRow(int kind) {
            return kind >= 0 && kind < MOST_KINDS ? pushedTo[kind] : NONE;
        }

        int standsAt(int place) {
            return place >= 0 && place < MOST_SLOTS ? slots[place] : NONE;
        }

        /** For each NAME those that some KIND answers beside it, as bits; itself too, if it is answered. */
        private void findTogether() {
            for (int name = 0; name < MOST_NAMES; name++) {
                together[name] = 0;
                for (int kind = 0; kind < MOST_KINDS; kind++) {
                    if (isIn(name, rows[kind])) together[name] |= rows[kind];
                }
            }
        }

        /** Lesser columns are tried first, and new ones in turn: the first way found is the first of all. */
        private boolean fitInto(int limit, int name, int used) {
            if (name < 0 || name >= MOST_NAMES) return true;
            columns[name] = NONE;
            if (together[name] == 0) return fitInto(limit, name + 1, used);
            for (int column = 0; column <= used && column < limit; column++) {
                if (!isFree(column, name)) continue;
                columns[name] = column;
                if (fitInto(limit, name + 1, Math.max(used, column + 1))) return true;
            }
            return false;
        }

        private boolean isFree(int column, int name) {
            for (int other = 0; other < name && other < MOST_NAMES; other++) {
                if (columns[other] == column && isIn(other, together[name])) return false;
            }
            return true;
        }

        /** The place behind the last one that the row fills. */
        private int pushRow(int kind) {
            int end = 0;
            int place = leastPlace(rows[kind]);
            pushedTo[kind] = place;
            for (int name = 0; name < MOST_NAMES && place + name < MOST_SLOTS; name++) {
                if (!isIn(name, rows[kind])) continue;
                slots[place + name] = 10 * kind + name;
                end = place + name + 1;
            }
            return end;
        }

        /** Ten rows of eight NAMES fill 80 places at most, so one of these places is always found. */
        private int leastPlace(int row) {
            int last = MOST_SLOTS - MOST_NAMES;
            for (int place = 0; place < last; place++) {
                if (isOpen(row, place)) return place;
            }
            return last;
        }

        private boolean isOpen(int row, int place) {
            for (int name = 0; name < MOST_NAMES && place + name < MOST_SLOTS; name++) {
                if (isIn(name, row) && slots[place + name] != NONE) return false;
            }
            return true;
        }
    }

    /** The calls at PLACES. What is remembered is worked out anew: SIZES change what calls would have met. */
    private static final class Places {
        private final int[] sizes = new int[MOST_PLACES];
        private final int[] calledPlaces = new int[MOST_CALLS];
        private final int[] calledKinds = new int[MOST_CALLS];
        private final int[] recent = new int[MOST_SIZE];
        private int count;
        private int remembered;

        Places() {
            for (int place = 0; place < MOST_PLACES; place++) sizes[place] = 1;
        }

        boolean isFull() {
            return count >= MOST_CALLS;
        }

        int howMany() {
            return count;
        }

        int record(int place, int kind) {
            if (isFull()) return FULL;
            calledPlaces[count] = place;
            calledKinds[count] = kind;
            count++;
            return count;
        }

        int clear() {
            int were = count;
            count = 0;
            return were;
        }

        int sizeOf(int place) {
            return isPlace(place) ? sizes[place] : 1;
        }

        int resize(int place, int v) {
            int was = sizeOf(place);
            if (isPlace(place)) sizes[place] = v;
            return was;
        }

        int callsAt(int place) {
            int calls = 0;
            for (int i = 0; i < count; i++) {
                if (calledPlaces[i] == place) calls++;
            }
            return calls;
        }

        /** HITS by a SIZE; the KINDS remembered at the end are kept, the latest first. */
        int hitsBySize(int place, int size) {
            remembered = 0;
            int hits = 0;
            for (int i = 0; i < count; i++) {
                if (calledPlaces[i] != place) continue;
                int at = whereRecent(calledKinds[i]);
                if (at != NONE) hits++;
                else if (remembered < size && remembered < MOST_SIZE) at = remembered++;
                else at = remembered - 1;
                putFirst(calledKinds[i], at);
            }
            return hits;
        }

        int latest(int i) {
            return i >= 0 && i < remembered && i < MOST_SIZE ? recent[i] : NONE;
        }

        /** HITS if the KIND goes that is called again last: no other choice makes more. */
        int bestHits(int place) {
            int size = sizeOf(place);
            int kept = 0;
            int hits = 0;
            for (int i = 0; i < count; i++) {
                if (calledPlaces[i] != place) continue;
                if (isIn(calledKinds[i], kept)) {
                    hits++;
                    continue;
                }
                if (Integer.bitCount(kept) >= size) kept &= ~(1 << longestUnused(place, kept, i));
                kept |= 1 << calledKinds[i];
            }
            return hits;
        }

        private int whereRecent(int kind) {
            for (int i = 0; i < remembered && i < MOST_SIZE; i++) {
                if (recent[i] == kind) return i;
            }
            return NONE;
        }

        /** The KINDS ahead of a place of the row step back onto it. */
        private void putFirst(int kind, int at) {
            if (at < 0 || at >= MOST_SIZE) return;
            for (int i = at; i > 0; i--) recent[i] = recent[i - 1];
            recent[0] = kind;
        }

        /** Of the KINDS kept the one whose next call at the PLACE is farthest, or never comes. */
        private int longestUnused(int place, int kept, int now) {
            int left = kept;
            for (int i = now + 1; i < count && Integer.bitCount(left) > 1; i++) {
                if (calledPlaces[i] == place) left &= ~(1 << calledKinds[i]);
            }
            return Integer.numberOfTrailingZeros(left);
        }
    }
}
