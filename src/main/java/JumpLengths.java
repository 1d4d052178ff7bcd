/**
 * An assembler whose jumps find their own lengths. The promises are in the document DOC.md;
 * words in capitals here (REACH, GROWN, HELD ..) are that document's.
 */
public final class JumpLengths {
    public static final int BAD = -1, STATE = -2, FULL = -3, NONE = -9;
    public static final int NO = -1000000;

    private static final int OP = 0, LABEL = 1, JUMP = 2, ALIGN = 3, CALL = 4, SPOT = 5;

    private static final int TEXT_MOST = 150;
    private static final int ITEMS_MOST = 32, JUMPS_MOST = 10, CALLS_MOST = 6, SPOTS_MOST = 3;
    private static final int LABELS = 8;
    private static final int SIZE_MOST = 60;
    private static final int REACH_LEAST = 4, REACH_MOST = 127, REACH_FIRST = 20;
    private static final int ISLANDS_MOST = 6, FEWEST_MOST = 3;
    private static final int UNDO_MOST = 10;
    private static final int ODDS_OPS_MOST = 6, ODDS_OF = 10;

    private static final int SHORT_BYTES = 2, LONG_BYTES = 5, CALL_BYTES = 2, ISLAND_BYTES = 5;
    private static final int SAVED_BYTES = LONG_BYTES - SHORT_BYTES;

    private static final int OP_BYTE = 16, SHORT_BYTE = 1, LONG_BYTE = 2, CALL_BYTE = 3, ISLAND_BYTE = 4;

    private static final int GROWN = 0, SHRUNK = 1, LEAST = 2, WAYS = 3;
    private static final int FEWEST = 3;

    private final Tokens text = new Tokens();
    /** A text is read into the draft, so that a FAULT leaves the program as it is. */
    private final Program draft = new Program();
    private final Program program = new Program();
    private final Image now = new Image();
    private final Image firstImage = new Image();
    private final Image secondImage = new Image();
    private final Layout grown = new Layout(program);
    private final Layout shrunk = new Layout(program);
    private final Layout least = new Layout(program);
    private final Search search = new Search(program);
    /** FEWEST as bits, or NONE. */
    private int fewestFound = NONE;
    /** Bits (by ways, and FEWEST) of what is found for what is now: LEAST, FEWEST are too dear for every call. */
    private int found = 0;

    public JumpLengths() {
        now.shape.startAs(program);
    }

    // ---- the source

    public int type(int c) {
        if (c < 0 || c > 255) return BAD;
        if (text.length >= TEXT_MOST) return FULL;
        text.take(c);
        return text.length;
    }

    public int clear() {
        int had = text.length;
        text.length = 0;
        return had;
    }

    public int source() {
        int fault = draft.readFrom(text);
        if (fault >= 0) return -10 - fault;
        program.becomeAs(draft);
        now.shape.startAs(program);
        now.past.known = 0;
        firstImage.kept = false;
        secondImage.kept = false;
        text.length = 0;
        found = 0;
        return program.items;
    }

    public int item(int k, int what) {
        if (!program.hasItem(k)) return BAD;
        switch (what) {
            case 0:
                return program.sorts[k];
            case 1:
                return valueNow(k);
            case 2:
                return program.sorts[k] == JUMP ? now.shape.pins >> program.numbers[k] & 1 : 0;
            default:
                return BAD;
        }
    }

    // ---- what is done

    public int sizes(int k, int size) {
        if (!program.isOf(k, OP) || size < 1 || size > SIZE_MOST) return BAD;
        int before = now.shape.sizes[k];
        if (before == size) return STATE;
        now.past.remember(Past.SIZED, k, before);
        now.shape.sizes[k] = size;
        found = 0;
        return before;
    }

    public int pins(int k) {
        if (!program.isOf(k, JUMP)) return BAD;
        int before = now.shape.pins;
        int number = program.numbers[k];
        now.past.remember(Past.PINNED, k, before);
        now.shape.pins = before ^ 1 << number;
        found = 0;
        return now.shape.pins >> number & 1;
    }

    public int places(int n, int label) {
        if (!mayHoldIsland(n, label)) return BAD;
        if (now.shape.hasIsland(n, label)) return STATE;
        if (now.shape.islandCount() >= ISLANDS_MOST) return FULL;
        return turnIsland(n, label);
    }

    public int takes(int n, int label) {
        if (!mayHoldIsland(n, label)) return BAD;
        if (!now.shape.hasIsland(n, label)) return STATE;
        return turnIsland(n, label);
    }

    public int undo() {
        if (now.past.known <= 0) return STATE;
        now.past.takeBack(now.shape);
        found = 0;
        return now.past.known;
    }

    // ---- lengths

    public int way(int way, int what) {
        if (!isWay(way)) return BAD;
        Layout layout = layoutOf(way);
        switch (what) {
            case 0:
                return layout.size();
            case 1:
                return layout.longs;
            case 2:
                return layout.rounds;
            case 3:
                return layout.size() - layoutOf(LEAST).size();
            case 4:
                return layout.servedCalls(now.shape);
            case 5:
                return layout.sumOfBytes(now.shape);
            default:
                return BAD;
        }
    }

    public int lies(int way, int k, int what) {
        if (!isWay(way) || !program.hasItem(k)) return NO;
        Layout layout = layoutOf(way);
        switch (what) {
            case 0:
                return layout.at[k];
            case 1:
                return layout.at[k + 1] - layout.at[k];
            case 2:
                return program.goesToLabel(k) ? layout.farOf(k) : 0;
            default:
                return NO;
        }
    }

    public int code(int way, int i) {
        if (!isWay(way)) return BAD;
        Layout layout = layoutOf(way);
        int k = layout.itemOfByte(i);
        if (!program.hasItem(k)) return BAD;
        return layout.byteOf(now.shape, k, i - layout.at[k]);
    }

    public int origin(int way, int i) {
        if (!isWay(way)) return BAD;
        return layoutOf(way).itemOfByte(i);
    }

    public int narrow() {
        return search.leastReach(now.shape);
    }

    public int fewest(int what) {
        if (what < 0 || what > 1) return BAD;
        if ((found >> FEWEST & 1) == 0) {
            fewestFound = search.fewestIslands(now.shape);
            found |= 1 << FEWEST;
        }
        if (fewestFound < 0) return NONE;
        return what == 0 ? Integer.bitCount(fewestFound) : fewestFound;
    }

    public int odds(int k, int x, int what) {
        if (!program.isOf(k, JUMP) || x < 0 || x > ODDS_OF || what < 0 || what > 1) return BAD;
        int lower = search.allOdds();
        int upper = search.oddsOfLong(now.shape, program.numbers[k], x);
        int common = commonDivisor(upper, lower);
        if (common <= 0) return BAD;
        return what == 0 ? upper / common : lower / common;
    }

    // ---- images

    public int keep(int image) {
        if (image < 0 || image > 1) return BAD;
        imageOf(image).becomeAs(now);
        return now.shape.islandCount();
    }

    public int back(int image) {
        if (image < 0 || image > 1) return BAD;
        if (!imageOf(image).kept) return STATE;
        now.becomeAs(imageOf(image));
        found = 0;
        return now.shape.islandCount();
    }

    public int count(int what) {
        switch (what) {
            case 0:
                return program.items;
            case 1:
                return program.jumps;
            case 2:
                return program.calls;
            case 3:
                return program.spots;
            case 4:
                return program.ops;
            case 5:
                return program.reach;
            case 6:
                return now.shape.islandCount();
            case 7:
                return now.past.known;
            case 8:
                return text.length;
            default:
                return BAD;
        }
    }

    private int valueNow(int k) {
        int sort = program.sorts[k];
        if (sort == OP) return now.shape.sizes[k];
        if (sort == SPOT) return now.shape.islandsIn(program.numbers[k]);
        return program.values[k];
    }

    private boolean mayHoldIsland(int n, int label) {
        return n >= 0 && n < program.spots && program.hasLabel(label);
    }

    /** Places the island, or takes it if it is placed. */
    private int turnIsland(int n, int label) {
        int before = now.shape.islands;
        now.past.remember(Past.ISLANDS, n, before);
        now.shape.islands = before ^ 1 << LABELS * n + label;
        found = 0;
        return now.shape.islandCount();
    }

    private static boolean isWay(int way) {
        return way >= 0 && way < WAYS;
    }

    private Layout layoutOf(int way) {
        Layout layout = way == GROWN ? grown : way == SHRUNK ? shrunk : least;
        if ((found >> way & 1) == 0) {
            if (way == GROWN) layout.growFrom(now.shape, now.shape.pins);
            else if (way == SHRUNK) layout.shrink(now.shape);
            else layout.tryAll(now.shape);
            found |= 1 << way;
        }
        return layout;
    }

    private Image imageOf(int image) {
        return image == 0 ? firstImage : secondImage;
    }

    private static int commonDivisor(int one, int other) {
        // Each two steps halve the numbers at least, so 64 are enough for any two ints.
        for (int step = 0; step < 64 && other != 0; step++) {
            int rest = one % other;
            one = other;
            other = rest;
        }
        return one;
    }

    /** THE TEXT, and the TOKENS that it is read as. */
    private static final class Tokens {
        static final int END = 0, WORD = 1, NUMBER = 2, MARK = 3, WRONG = 4;
        static final int LONGEST_NUMBER = 999;

        final int[] bytes = new int[TEXT_MOST];
        int length = 0;
        /** Where the TOKEN begins that is looked at, what it is, and behind it the place to read on. */
        int start = 0;
        int kind = END;
        int place = 0;
        /** Of a WORD of one letter its place among letters, of a longer one -1; of a NUMBER what it is. */
        int value = 0;

        void take(int c) {
            if (length < 0 || length >= bytes.length) return;
            bytes[length] = c;
            length++;
        }

        void begin() {
            place = 0;
            next();
        }

        void next() {
            while (place < length && bytes[place] == ' ') place++;
            start = place;
            if (place >= length) {
                kind = END;
            } else if (isLetter(bytes[place])) {
                readWord();
            } else if (isDigit(bytes[place])) {
                readNumber();
            } else {
                kind = bytes[place] == ';' ? MARK : WRONG;
                place++;
            }
        }

        boolean isNumber(int lowest, int highest) {
            return kind == NUMBER && value >= lowest && value <= highest;
        }

        boolean isLabel() {
            return kind == WORD && value >= 0 && value < LABELS;
        }

        private void readWord() {
            while (place < length && isLetter(bytes[place])) place++;
            kind = WORD;
            value = place - start == 1 ? bytes[start] - 'a' : -1;
        }

        private void readNumber() {
            value = 0;
            while (place < length && isDigit(bytes[place])) {
                // A long row of digits must not wrap around into what is allowed.
                value = Math.min(10 * value + bytes[place] - '0', LONGEST_NUMBER + 1);
                place++;
            }
            boolean zeroAhead = bytes[start] == '0' && place - start > 1;
            kind = zeroAhead || value > LONGEST_NUMBER ? WRONG : NUMBER;
        }

        private static boolean isLetter(int c) {
            return c >= 'a' && c <= 'z';
        }

        private static boolean isDigit(int c) {
            return c >= '0' && c <= '9';
        }
    }

    /** The ITEMS as a text tells them. */
    private static final class Program {
        final int[] sorts = new int[ITEMS_MOST];
        /** Of an item its SIZE as told, its LABEL, or what it aligns to. */
        final int[] values = new int[ITEMS_MOST];
        /** Of an OP, JUMP, CALL, SPOT how many of its sort are ahead of it. */
        final int[] numbers = new int[ITEMS_MOST];
        /** Of a JUMP, a CALL which item its LABEL is. */
        final int[] targets = new int[ITEMS_MOST];
        /** Of a LABEL which item it is, or -1. */
        final int[] labelItems = new int[LABELS];
        final int[] jumpItems = new int[JUMPS_MOST];
        final int[] callItems = new int[CALLS_MOST];
        final int[] spotItems = new int[SPOTS_MOST];
        int items = 0;
        int ops = 0;
        int jumps = 0;
        int calls = 0;
        int spots = 0;
        int reach = REACH_FIRST;

        Program() {
            empty();
        }

        boolean hasItem(int k) {
            return k >= 0 && k < items;
        }

        boolean isOf(int k, int sort) {
            return hasItem(k) && sorts[k] == sort;
        }

        boolean goesToLabel(int k) {
            return isOf(k, JUMP) || isOf(k, CALL);
        }

        boolean hasLabel(int label) {
            return label >= 0 && label < LABELS && labelItems[label] >= 0;
        }

        int allJumps() {
            return (1 << jumps) - 1;
        }

        void becomeAs(Program other) {
            System.arraycopy(other.sorts, 0, sorts, 0, ITEMS_MOST);
            System.arraycopy(other.values, 0, values, 0, ITEMS_MOST);
            System.arraycopy(other.numbers, 0, numbers, 0, ITEMS_MOST);
            System.arraycopy(other.targets, 0, targets, 0, ITEMS_MOST);
            System.arraycopy(other.labelItems, 0, labelItems, 0, LABELS);
            System.arraycopy(other.jumpItems, 0, jumpItems, 0, JUMPS_MOST);
            System.arraycopy(other.callItems, 0, callItems, 0, CALLS_MOST);
            System.arraycopy(other.spotItems, 0, spotItems, 0, SPOTS_MOST);
            items = other.items;
            ops = other.ops;
            jumps = other.jumps;
            calls = other.calls;
            spots = other.spots;
            reach = other.reach;
        }

        /** The FAULT's place, or -1 if the text is right. */
        int readFrom(Tokens text) {
            empty();
            text.begin();
            for (int told = 0; told < TEXT_MOST && text.kind != Tokens.END; told++) {
                if (!readTold(text, told == 0)) return text.start;
            }
            return findTargets() ? -1 : text.length;
        }

        private void empty() {
            for (int label = 0; label < LABELS; label++) labelItems[label] = -1;
            items = 0;
            ops = 0;
            jumps = 0;
            calls = 0;
            spots = 0;
            reach = REACH_FIRST;
        }

        /** Reads an ITEM or the REACH; if it is wrong, the text stays at the TOKEN that can't stand there. */
        private boolean readTold(Tokens text, boolean isFirst) {
            if (text.kind != Tokens.WORD) return false;
            int letter = text.value + 'a';
            boolean tellsReach = letter == 'r';
            int sort = sortOf(letter);
            if (tellsReach ? !isFirst : !hasRoomFor(sort)) return false;
            text.next();
            int value = 0;
            if (sort != SPOT) {
                if (tellsReach ? !text.isNumber(REACH_LEAST, REACH_MOST) : !mayBeOf(sort, text)) return false;
                value = text.value;
                text.next();
            }
            if (text.kind != Tokens.MARK) return false;
            if (tellsReach) reach = value;
            else add(sort, value);
            text.next();
            return true;
        }

        private static int sortOf(int letter) {
            switch (letter) {
                case 'o':
                    return OP;
                case 'l':
                    return LABEL;
                case 'j':
                    return JUMP;
                case 'a':
                    return ALIGN;
                case 'c':
                    return CALL;
                case 'i':
                    return SPOT;
                default:
                    return -1;
            }
        }

        private boolean hasRoomFor(int sort) {
            if (sort < 0 || items >= ITEMS_MOST) return false;
            if (sort == JUMP) return jumps < JUMPS_MOST;
            if (sort == CALL) return calls < CALLS_MOST;
            return sort != SPOT || spots < SPOTS_MOST;
        }

        private boolean mayBeOf(int sort, Tokens text) {
            switch (sort) {
                case OP:
                    return text.isNumber(1, SIZE_MOST);
                case LABEL:
                    return text.isLabel() && !hasLabel(text.value);
                case ALIGN:
                    return text.isNumber(2, 16) && Integer.bitCount(text.value) == 1;
                default:
                    return text.isLabel();
            }
        }

        private void add(int sort, int value) {
            if (!hasRoomFor(sort)) return;
            sorts[items] = sort;
            values[items] = value;
            numbers[items] = numberOf(sort, value);
            items++;
        }

        /** Counts the item that comes next; its number. */
        private int numberOf(int sort, int value) {
            switch (sort) {
                case OP:
                    return ops++;
                case LABEL:
                    if (value >= 0 && value < LABELS) labelItems[value] = items;
                    return 0;
                case JUMP:
                    jumpItems[jumps] = items;
                    return jumps++;
                case CALL:
                    callItems[calls] = items;
                    return calls++;
                case SPOT:
                    spotItems[spots] = items;
                    return spots++;
                default:
                    return 0;
            }
        }

        /** False if a LABEL is not there. */
        private boolean findTargets() {
            for (int k = 0; k < items; k++) {
                if (!goesToLabel(k)) continue;
                if (!hasLabel(values[k])) return false;
                targets[k] = labelItems[values[k]];
            }
            return true;
        }
    }

    /** What a LAYOUT is found for: all that may change while the ITEMS stay. */
    private static final class Shape {
        /** By items; of others than OPS without meaning. */
        final int[] sizes = new int[ITEMS_MOST];
        /** Bits by JUMPS. */
        int pins = 0;
        /** Bits by 8 times the SPOT and LABEL. */
        int islands = 0;
        int reach = REACH_FIRST;

        void startAs(Program program) {
            System.arraycopy(program.values, 0, sizes, 0, ITEMS_MOST);
            pins = 0;
            islands = 0;
            reach = program.reach;
        }

        void becomeAs(Shape other) {
            System.arraycopy(other.sizes, 0, sizes, 0, ITEMS_MOST);
            pins = other.pins;
            islands = other.islands;
            reach = other.reach;
        }

        boolean reaches(int far) {
            return far >= -reach - 1 && far <= reach;
        }

        int islandCount() {
            return Integer.bitCount(islands);
        }

        int islandsIn(int spot) {
            return Integer.bitCount(labelsIn(spot));
        }

        int labelsIn(int spot) {
            return islands >> LABELS * spot & (1 << LABELS) - 1;
        }

        boolean hasIsland(int spot, int label) {
            return (islands >> LABELS * spot + label & 1) != 0;
        }
    }

    /** What may be UNDONE. */
    private static final class Past {
        static final int SIZED = 0, PINNED = 1, ISLANDS = 2;

        final int[] deeds = new int[UNDO_MOST];
        final int[] wheres = new int[UNDO_MOST];
        final int[] befores = new int[UNDO_MOST];
        int known = 0;

        void becomeAs(Past other) {
            System.arraycopy(other.deeds, 0, deeds, 0, UNDO_MOST);
            System.arraycopy(other.wheres, 0, wheres, 0, UNDO_MOST);
            System.arraycopy(other.befores, 0, befores, 0, UNDO_MOST);
            known = other.known;
        }

        void remember(int deed, int where, int before) {
            if (known >= UNDO_MOST) loseOldest();
            deeds[known] = deed;
            wheres[known] = where;
            befores[known] = before;
            known++;
        }

        void takeBack(Shape shape) {
            if (known <= 0) return;
            known--;
            if (deeds[known] == SIZED) shape.sizes[wheres[known]] = befores[known];
            else if (deeds[known] == PINNED) shape.pins = befores[known];
            else shape.islands = befores[known];
        }

        private void loseOldest() {
            System.arraycopy(deeds, 1, deeds, 0, UNDO_MOST - 1);
            System.arraycopy(wheres, 1, wheres, 0, UNDO_MOST - 1);
            System.arraycopy(befores, 1, befores, 0, UNDO_MOST - 1);
            known = UNDO_MOST - 1;
        }
    }

    /** What is NOW, or was when it was kept. */
    private static final class Image {
        final Shape shape = new Shape();
        final Past past = new Past();
        boolean kept = false;

        void becomeAs(Image other) {
            shape.becomeAs(other.shape);
            past.becomeAs(other.past);
            kept = true;
        }
    }

    /** Where all lies if some JUMPS are LONG, and the three ways to find which. */
    private static final class Layout {
        private final Program program;
        /** By items; behind the last one the size of all. */
        final int[] at = new int[ITEMS_MOST + 1];
        /** Bits by JUMPS. */
        int longs = 0;
        int rounds = 0;

        Layout(Program program) {
            this.program = program;
        }

        int size() {
            return at[program.items];
        }

        /** Round by round makes SHORT JUMPS that do not REACH LONG; from the PINNED ones on this is GROWN. */
        void growFrom(Shape shape, int firstLongs) {
            lay(shape, firstLongs);
            rounds = 0;
            for (int round = 0; round < JUMPS_MOST; round++) {
                int stranded = strandedJumps(shape);
                if (stranded == 0) return;
                rounds++;
                lay(shape, longs | stranded);
            }
        }

        void shrink(Shape shape) {
            int shrinking = 0;
            int held = 0;
            lay(shape, program.allJumps());
            // A jump that was made SHORT stays so or is HELD: none is made so twice.
            for (int round = 0; round < JUMPS_MOST; round++) {
                int shortened = wouldReach(shape) & ~shape.pins & ~held;
                if (shortened == 0) break;
                shrinking++;
                int kept = longs & ~shortened;
                growFrom(shape, kept);
                held |= longs & ~kept;
            }
            rounds = shrinking;
        }

        void tryAll(Shape shape) {
            int best = program.allJumps();
            lay(shape, best);
            int bestSize = size();
            for (int tried = 0; tried < program.allJumps(); tried++) {
                if ((tried & shape.pins) != shape.pins) continue;
                lay(shape, tried);
                boolean isBetter = size() < bestSize
                        || size() == bestSize && Integer.bitCount(tried) < Integer.bitCount(best);
                if (isBetter && strandedJumps(shape) == 0) {
                    best = tried;
                    bestSize = size();
                }
            }
            lay(shape, best);
            rounds = 0;
        }

        boolean isLong(int jump) {
            return (longs >> jump & 1) != 0;
        }

        /** How far a JUMP, a CALL goes to its LABEL. */
        int farOf(int k) {
            return at[program.targets[k]] - at[k + 1];
        }

        int servedCalls(Shape shape) {
            int served = 0;
            for (int call = 0; call < program.calls; call++) {
                if (farServed(shape, program.callItems[call]) != NO) served |= 1 << call;
            }
            return served;
        }

        boolean servesAll(Shape shape) {
            for (int call = 0; call < program.calls; call++) {
                if (farServed(shape, program.callItems[call]) == NO) return false;
            }
            return true;
        }

        int sumOfBytes(Shape shape) {
            int sum = 0;
            for (int k = 0; k < program.items; k++) {
                int bytes = at[k + 1] - at[k];
                for (int i = 0; i < bytes; i++) sum += byteOf(shape, k, i);
            }
            return sum;
        }

        int itemOfByte(int i) {
            if (i < 0) return BAD;
            for (int k = 0; k < program.items; k++) {
                if (i < at[k + 1]) return k;
            }
            return BAD;
        }

        int byteOf(Shape shape, int k, int i) {
            switch (program.sorts[k]) {
                case OP:
                    return OP_BYTE;
                case JUMP:
                    if (i == 0) return isLong(program.numbers[k]) ? LONG_BYTE : SHORT_BYTE;
                    return byteOfNumber(farOf(k), i - 1);
                case CALL:
                    if (i == 0) return CALL_BYTE;
                    int far = farServed(shape, k);
                    return far == NO ? 0 : byteOfNumber(far, 0);
                case SPOT:
                    if (i % ISLAND_BYTES == 0) return ISLAND_BYTE;
                    return byteOfNumber(farOfIsland(shape, k, i / ISLAND_BYTES), i % ISLAND_BYTES - 1);
                default:
                    return 0;
            }
        }

        private static int byteOfNumber(int number, int i) {
            return number >> 8 * i & 255;
        }

        private void lay(Shape shape, int newLongs) {
            longs = newLongs;
            int place = 0;
            for (int k = 0; k < program.items; k++) {
                at[k] = place;
                place += bytesOf(shape, k, place);
            }
            at[program.items] = place;
        }

        private int bytesOf(Shape shape, int k, int place) {
            switch (program.sorts[k]) {
                case OP:
                    return shape.sizes[k];
                case JUMP:
                    return isLong(program.numbers[k]) ? LONG_BYTES : SHORT_BYTES;
                case ALIGN:
                    // What is aligned to is a power of 2.
                    return -place & program.values[k] - 1;
                case CALL:
                    return CALL_BYTES;
                case SPOT:
                    return ISLAND_BYTES * Integer.bitCount(shape.labelsIn(program.numbers[k]));
                default:
                    return 0;
            }
        }

        private int strandedJumps(Shape shape) {
            int stranded = 0;
            for (int jump = 0; jump < program.jumps; jump++) {
                if (!isLong(jump) && !shape.reaches(farOf(program.jumpItems[jump]))) stranded |= 1 << jump;
            }
            return stranded;
        }

        /** The LONG JUMPS that would REACH if each of them alone were SHORT and what it spans stayed. */
        private int wouldReach(Shape shape) {
            int would = 0;
            for (int jump = 0; jump < program.jumps; jump++) {
                int far = farOf(program.jumpItems[jump]);
                // A SHORT one ends earlier, and so does all behind it: only the way back becomes less.
                if (far < 0) far += SAVED_BYTES;
                if (isLong(jump) && shape.reaches(far)) would |= 1 << jump;
            }
            return would;
        }

        /** How far a CALL goes to its LABEL or else to the ISLAND that serves it; NO if none does. */
        private int farServed(Shape shape, int k) {
            int far = farOf(k);
            if (shape.reaches(far)) return far;
            int label = program.values[k];
            for (int spot = 0; spot < program.spots; spot++) {
                if (!shape.hasIsland(spot, label)) continue;
                int ahead = Integer.bitCount(shape.labelsIn(spot) & (1 << label) - 1);
                far = at[program.spotItems[spot]] + ISLAND_BYTES * ahead - at[k + 1];
                if (shape.reaches(far)) return far;
            }
            return NO;
        }

        /** How far the ISLAND goes that is the n-th (0 ..) of a SPOT. */
        private int farOfIsland(Shape shape, int k, int n) {
            int labels = shape.labelsIn(program.numbers[k]);
            int ahead = 0;
            for (int label = 0; label < LABELS; label++) {
                if ((labels >> label & 1) == 0) continue;
                if (ahead == n && program.hasLabel(label)) {
                    return at[program.labelItems[label]] - at[k] - ISLAND_BYTES * (n + 1);
                }
                ahead++;
            }
            return 0;
        }
    }

    /** What would be, by other shapes than that which is now. */
    private static final class Search {
        private final Program program;
        private final Shape tried = new Shape();
        private final Layout layout;
        /** The first OPS, which ODDS make longer. */
        private final int[] firstOps = new int[ODDS_OPS_MOST];
        /** How many ISLANDS each SPOT has in the layout, packed; -1 if nothing is laid yet. */
        private int laidFor = -1;

        Search(Program program) {
            this.program = program;
            layout = new Layout(program);
        }

        int leastReach(Shape now) {
            tried.becomeAs(now);
            for (int reach = REACH_LEAST; reach <= REACH_MOST; reach++) {
                tried.reach = reach;
                layout.growFrom(tried, tried.pins);
                if (layout.longs == now.pins) return reach;
            }
            return NONE;
        }

        /** The FEWEST ISLANDS as bits, or NONE. */
        int fewestIslands(Shape now) {
            tried.becomeAs(now);
            laidFor = -1;
            for (int more = 0; more <= FEWEST_MOST; more++) {
                int islands = leastWith(this, 0, LABELS * program.spots, more);
                if (islands >= 0) return islands;
            }
            return NONE;
        }

        /** What all odds make together: 10 for each OP that may be longer. */
        int allOdds() {
            return power(ODDS_OF, Math.min(program.ops, ODDS_OPS_MOST));
        }

        /** Of allOdds() those by which the jump is LONG in GROWN. */
        int oddsOfLong(Shape now, int jump, int x) {
            tried.becomeAs(now);
            int ops = findFirstOps();
            int sum = 0;
            for (int longer = 0; longer < 1 << ops; longer++) {
                for (int op = 0; op < ops; op++) {
                    tried.sizes[firstOps[op]] = now.sizes[firstOps[op]] + (longer >> op & 1);
                }
                layout.growFrom(tried, tried.pins);
                int many = Integer.bitCount(longer);
                if (layout.isLong(jump)) sum += power(x, many) * power(ODDS_OF - x, ops - many);
            }
            return sum;
        }

        /**
         * The least set that serves all, of the given islands and some more below a bit; NONE. The highest
         * bit is chosen first, the lowest choice first, so sets come as their numbers grow. It calls itself
         * as often as more says, so it is static, as LANGUAGE.md's rule 8 has it.
         */
        private static int leastWith(Search search, int islands, int below, int more) {
            if (more <= 0) return search.servesAllBy(islands) ? islands : NONE;
            for (int bit = 0; bit < below; bit++) {
                if (!search.program.hasLabel(bit % LABELS)) continue;
                int least = leastWith(search, islands | 1 << bit, bit, more - 1);
                if (least >= 0) return least;
            }
            return NONE;
        }

        private boolean servesAllBy(int islands) {
            tried.islands = islands;
            // Where all lies depends on how many islands a spot has, not on whose they are.
            int counts = tried.islandsIn(0) | tried.islandsIn(1) << 4 | tried.islandsIn(2) << 8;
            if (counts != laidFor) {
                layout.growFrom(tried, tried.pins);
                laidFor = counts;
            }
            return layout.servesAll(tried);
        }

        private int findFirstOps() {
            int ops = 0;
            for (int k = 0; k < program.items && ops < ODDS_OPS_MOST; k++) {
                if (program.sorts[k] == OP) firstOps[ops++] = k;
            }
            return ops;
        }

        private static int power(int base, int exponent) {
            int power = 1;
            for (int i = 0; i < exponent; i++) power *= base;
            return power;
        }
    }
}
