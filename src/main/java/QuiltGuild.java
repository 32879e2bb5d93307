/**
 * A quilt guild, as ../shared/DOC.md tells it. The methods of the face check the arguments, remember the state before
 * an action, and leave the work to the classes inside. In these, a place that does not exist is answered with null, so
 * that "there is no such frame" and the test of a reference are one test.
 */
public final class QuiltGuild {
    public static final int NONE = -9;

    private static final int MOST_CHARACTERS = 60;
    private static final int LAST_CHARACTER_CODE = 255;
    private static final int LONGEST_SIDE = 16;
    private static final int MOST_PATCHES = 256;
    private static final int COLOURS = 6;
    private static final int FRAMES = 3;
    private static final int ALL_FRAMES = 7;
    private static final int MOST_MEMBERS = 5;
    private static final int MOST_AT_ONCE = 99;
    private static final int HIGHEST_PRICE = 9999;
    private static final int MOST_REMEMBERED = 14;
    private static final int SLOTS = 2;

    private static final int MOST_COMMANDS = 4;
    private static final int GROUP = 10000;

    private static final long STEP_FACTOR = 6364136223846793005L;
    private static final long STEP_ADDEND = 1442695040888963407L;
    private static final int MOST_EVENINGS = 99;
    private static final int EVENING_PRICE = 100;
    private static final int QUILT_WEIGHT = 1000;
    private static final int MOST_SEWN_TOLD = 999;

    private static final int MIRRORED = 4;
    private static final int HALF_TURN = 2;
    private static final int QUARTER_TURN = 1;
    private static final int VARIANTS = 8;

    private final Text text = new Text();
    private final State state = new State();
    /** Where scripts and simulations run; made once, so that they make nothing. */
    private final State trial = new State();
    private final History history = new History();
    private final State[] slots = new State[SLOTS];
    private final PieceFinder pieceFinder = new PieceFinder();

    public QuiltGuild() {
    }

    // ---- text

    public int append(int c) throws IllegalArgumentException, IllegalStateException {
        requireRange(c, 0, LAST_CHARACTER_CODE);
        requireState(!text.isFull());
        return text.add(c);
    }

    public int clearText() {
        return text.empty();
    }

    public int errorPosition() {
        return text.check();
    }

    // ---- what there is

    public int about(int what) throws IllegalArgumentException {
        requireRange(what, 0, 8);
        switch (what) {
            case 0: return state.memberCount;
            case 1: return state.memberCount > 0 ? state.turn : NONE;
            case 2: return state.usedFrames();
            case 3: return state.raffledQuilts;
            case 4: return state.raffledPatches;
            case 5: return state.raffledPence;
            case 6: return state.clothInAll(Cloth.IN_STOCK);
            case 7: return state.clothInAll(Cloth.IN_SCRAPS);
            default: return state.clothInAll(Cloth.RETURNED);
        }
    }

    public int member(int m, int what) throws IndexOutOfBoundsException, IllegalArgumentException {
        Member member = existingMember(m);
        requireRange(what, 0, 3);
        switch (what) {
            case 0: return member.sewn;
            case 1: return member.pence;
            case 2: return Rows.sum(member.given);
            default: return member.returned;
        }
    }

    public int cloth(int c, int what) throws IndexOutOfBoundsException, IllegalArgumentException {
        Cloth cloth = existingCloth(c);
        requireRange(what, Cloth.IN_STOCK, Cloth.RETURNED);
        return cloth.pieces(what);
    }

    public int frame(int f, int what) throws IndexOutOfBoundsException, IllegalArgumentException {
        Frame frame = existingFrame(f);
        requireRange(what, 0, 6);
        Pattern pattern = frame.pattern;
        if (pattern == null) {
            return 0;
        }
        switch (what) {
            case 0: return pattern.width;
            case 1: return pattern.height;
            case 2: return frame.sewn;
            case 3: return pattern.differentColours();
            case 4: return pattern.seams();
            case 5: return pieceFinder.piecesOf(pattern);
            default: return pieceFinder.greatestOf(pattern);
        }
    }

    public int patch(int f, int x, int y) throws IndexOutOfBoundsException, IllegalArgumentException {
        Frame frame = existingFrame(f);
        requireArgument(x >= 0 && y >= 0);
        Pattern pattern = frame.pattern;
        return pattern == null ? NONE : pattern.colourAt(x, y);
    }

    public int count(int f, int c, boolean sewn) throws IndexOutOfBoundsException {
        Frame frame = existingFrame(f);
        existingCloth(c);
        return frame.patchesOf(c, 0, sewn ? frame.sewn : frame.patches());
    }

    public boolean same(int f, int how) throws IndexOutOfBoundsException, IllegalArgumentException {
        Frame frame = existingFrame(f);
        requireRange(how, 0, 2);
        Pattern pattern = frame.pattern;
        if (pattern == null) {
            return true;
        }
        switch (how) {
            case 0: return pattern.becomesBy(MIRRORED, pattern);
            case 1: return pattern.becomesBy(HALF_TURN, pattern);
            default: return pattern.becomesBy(QUARTER_TURN, pattern);
        }
    }

    // ---- actions

    public int addMember() throws IllegalStateException {
        requireState(state.memberCount < MOST_MEMBERS);
        history.remember(state);
        return state.welcomeMember();
    }

    public int give(int m, int c, int n) throws IndexOutOfBoundsException, IllegalArgumentException {
        Member member = existingMember(m);
        Cloth cloth = existingCloth(c);
        requireRange(n, 1, MOST_AT_ONCE);
        history.remember(state);
        state.takeGift(member, c, n);
        return cloth.stock;
    }

    public int start(int f) throws IndexOutOfBoundsException, IllegalStateException {
        Frame frame = existingFrame(f);
        requireState(frame.isEmpty() && text.check() == NONE);
        history.remember(state);
        frame.putOn(text.toPattern());
        return frame.patches();
    }

    public int recolour(int f, int a, int b) throws IndexOutOfBoundsException, IllegalStateException {
        Frame frame = existingFrame(f);
        existingCloth(a);
        existingCloth(b);
        requireState(frame.canBeRecoloured());
        history.remember(state);
        return frame.exchangeColours(a, b);
    }

    public int sew(int f, int n) throws IndexOutOfBoundsException, IllegalArgumentException, IllegalStateException {
        Frame frame = existingFrame(f);
        requireRange(n, 1, MOST_AT_ONCE);
        requireState(state.canSewOn(frame));
        history.remember(state);
        return state.sewPatches(frame, n);
    }

    public int takeApart(int f) throws IndexOutOfBoundsException, IllegalStateException {
        Frame frame = existingFrame(f);
        requireState(!frame.isEmpty());
        history.remember(state);
        return state.cutUp(frame);
    }

    public int raffle(int f, int price)
            throws IndexOutOfBoundsException, IllegalArgumentException, IllegalStateException {
        Frame frame = existingFrame(f);
        requireRange(price, 0, HIGHEST_PRICE);
        requireState(frame.isFinished());
        history.remember(state);
        return state.raffleOff(frame, price);
    }

    public int returnCloth() {
        history.remember(state);
        return state.giveBackStock();
    }

    public int undo() throws IllegalStateException {
        requireState(history.kept > 0);
        return history.takeBack(state);
    }

    // ---- what would be

    public int lacks(int set, int c) throws IndexOutOfBoundsException, IllegalArgumentException {
        existingCloth(c);
        requireRange(set, 0, ALL_FRAMES);
        return state.missing(set, c);
    }

    public int canFinish() {
        int best = 0;
        for (int set = 1; set <= ALL_FRAMES; set++) {
            if (Integer.bitCount(set) > Integer.bitCount(best) && state.canFinishAll(set)) {
                best = set;
            }
        }
        return best;
    }

    public int wouldGet(int f, int m, int price) throws IndexOutOfBoundsException, IllegalArgumentException {
        Frame frame = existingFrame(f);
        existingMember(m);
        requireRange(price, 0, HIGHEST_PRICE);
        return frame.isFinished() ? frame.shareOf(m, price) : NONE;
    }

    public int becomes(int f, int g) throws IndexOutOfBoundsException {
        Pattern from = existingFrame(f).pattern;
        Pattern to = existingFrame(g).pattern;
        if (from == null || to == null) {
            return NONE;
        }
        for (int n = 0; n < VARIANTS; n++) {
            if (from.becomesBy(n, to)) {
                return n;
            }
        }
        return NONE;
    }

    // ---- scripts, simulations

    public int runScript(int n, long script) throws IllegalArgumentException {
        requireRange(n, 1, MOST_COMMANDS);
        requireArgument(script >= 0 && withoutLastGroups(script, n) == 0);
        trial.copyFrom(state);
        for (int i = 0; i < n; i++) {
            int command = (int) (withoutLastGroups(script, n - 1 - i) % GROUP);
            if (!Script.succeeds(trial, command)) {
                return i;
            }
        }
        return NONE;
    }

    public int simulate(long seed, int m) throws IllegalArgumentException {
        requireRange(m, 1, MOST_EVENINGS);
        trial.copyFrom(state);
        int sewn = 0;
        long x = seed;
        for (int i = 0; i < m; i++) {
            x = x * STEP_FACTOR + STEP_ADDEND;
            sewn += trial.spendEvening((int) (x >>> 33));
        }
        return QUILT_WEIGHT * (trial.raffledQuilts - state.raffledQuilts) + Math.min(sewn, MOST_SEWN_TOLD);
    }

    // ---- save slots

    public int save(int slot) throws IndexOutOfBoundsException {
        requireSlot(slot);
        State.storeAt(slots, slot, state);
        return state.memberCount;
    }

    public int restore(int slot) throws IndexOutOfBoundsException, IllegalStateException {
        requireSlot(slot);
        State saved = State.storedAt(slots, slot);
        requireState(saved != null);
        state.copyFrom(saved);
        history.forgetAll();
        return state.memberCount;
    }

    // ---- what the face shares

    private static void requireArgument(boolean holds) throws IllegalArgumentException {
        if (!holds) {
            throw new IllegalArgumentException();
        }
    }

    private static void requireRange(int value, int least, int most) throws IllegalArgumentException {
        requireArgument(value >= least && value <= most);
    }

    private static void requireState(boolean holds) throws IllegalStateException {
        if (!holds) {
            throw new IllegalStateException();
        }
    }

    private static void requireSlot(int slot) throws IndexOutOfBoundsException {
        if (slot < 0 || slot >= SLOTS) {
            throw new IndexOutOfBoundsException();
        }
    }

    private Member existingMember(int m) throws IndexOutOfBoundsException {
        Member member = state.memberAt(m);
        if (member == null) {
            throw new IndexOutOfBoundsException();
        }
        return member;
    }

    private Cloth existingCloth(int c) throws IndexOutOfBoundsException {
        Cloth cloth = state.clothAt(c);
        if (cloth == null) {
            throw new IndexOutOfBoundsException();
        }
        return cloth;
    }

    private Frame existingFrame(int f) throws IndexOutOfBoundsException {
        Frame frame = state.frameAt(f);
        if (frame == null) {
            throw new IndexOutOfBoundsException();
        }
        return frame;
    }

    private static long withoutLastGroups(long script, int groups) {
        long rest = script;
        for (int i = 0; i < groups; i++) {
            rest /= GROUP;
        }
        return rest;
    }

    /** Rows of numbers in which a place that does not exist reads as 0 and is not written. */
    private static final class Rows {
        static int at(int[] row, int index) {
            return index >= 0 && index < row.length ? row[index] : 0;
        }

        static void put(int[] row, int index, int value) {
            if (index >= 0 && index < row.length) {
                row[index] = value;
            }
        }

        static void add(int[] row, int index, int more) {
            put(row, index, at(row, index) + more);
        }

        static int sum(int[] row) {
            int sum = 0;
            for (int i = 0; i < row.length; i++) {
                sum += row[i];
            }
            return sum;
        }

        static void clear(int[] row) {
            for (int i = 0; i < row.length; i++) {
                row[i] = 0;
            }
        }

        static void copy(int[] from, int[] to) {
            for (int i = 0; i < from.length && i < to.length; i++) {
                to[i] = from[i];
            }
        }
    }

    /**
     * The text buffer, and the blocks that the last check found in it. A block is named by the index of its first
     * character, so the rows need no more places than the text. Blocks inside are chained, as a patch is found by
     * going down from the whole block: so no block but the whole one is ever laid out.
     */
    private static final class Text {
        private final int[] characters = new int[MOST_CHARACTERS];
        private int length;
        private final int[] widths = new int[MOST_CHARACTERS];
        private final int[] heights = new int[MOST_CHARACTERS];
        private final int[] firstInside = new int[MOST_CHARACTERS];
        private final int[] lastInside = new int[MOST_CHARACTERS];
        private final int[] nextBeside = new int[MOST_CHARACTERS];
        /** How far a block within parentheses or brackets lies from where the first one there begins. */
        private final int[] distances = new int[MOST_CHARACTERS];
        /** The blocks that have begun and not ended, the innermost last. */
        private final int[] open = new int[MOST_CHARACTERS];
        private int openCount;
        /** The block that has ended and lies in no other one, or NONE. */
        private int whole = NONE;

        boolean isFull() {
            return length >= MOST_CHARACTERS;
        }

        int add(int c) {
            Rows.put(characters, length, c);
            length++;
            return length;
        }

        int empty() {
            int previous = length;
            length = 0;
            return previous;
        }

        /** The error position, or NONE. */
        int check() {
            openCount = 0;
            whole = NONE;
            for (int i = 0; i < length && i < MOST_CHARACTERS; i++) {
                int error = read(i);
                if (error != NONE) {
                    return error;
                }
            }
            return whole == NONE ? length : NONE;
        }

        /** The pattern that the last check found, or null. */
        Pattern toPattern() {
            if (whole == NONE) {
                return null;
            }
            int width = Rows.at(widths, whole);
            int height = Rows.at(heights, whole);
            if (width < 1 || width > LONGEST_SIDE || height < 1 || height > LONGEST_SIDE) {
                return null;
            }
            byte[] colours = new byte[width * height];
            for (int i = 0; i < colours.length; i++) {
                colours[i] = (byte) colourOfWhole(i % width, i / width);
            }
            return new Pattern(width, height, colours);
        }

        private int read(int i) {
            int c = Rows.at(characters, i);
            if (whole != NONE) {
                return i;
            }
            if (isColour(c)) {
                return readColour(i);
            }
            if (isOpening(c) || isPrefix(c)) {
                return openBlock(i);
            }
            return c == ')' || c == ']' ? closeBlock(i, c == ')' ? '(' : '[') : i;
        }

        private int readColour(int i) {
            setSize(i, 1, 1);
            Rows.put(nextBeside, i, NONE);
            return endBlock(i);
        }

        private int openBlock(int i) {
            setSize(i, 0, 0);
            Rows.put(firstInside, i, NONE);
            Rows.put(lastInside, i, NONE);
            Rows.put(nextBeside, i, NONE);
            Rows.put(open, openCount, i);
            openCount++;
            return NONE;
        }

        private int closeBlock(int i, int opening) {
            int block = innermost();
            if (block == NONE || Rows.at(characters, block) != opening || Rows.at(firstInside, block) == NONE) {
                return i;
            }
            openCount--;
            return endBlock(block);
        }

        /** With a block end all the prefixes that stand before it, the nearest first. */
        private int endBlock(int block) {
            int ended = block;
            for (int i = 0; i < MOST_CHARACTERS; i++) {
                int outer = innermost();
                if (outer == NONE) {
                    whole = ended;
                    return NONE;
                }
                if (isOpening(Rows.at(characters, outer))) {
                    return putInside(ended, outer);
                }
                if (!applyPrefix(outer, ended)) {
                    return outer;
                }
                openCount--;
                ended = outer;
            }
            return NONE;
        }

        private int innermost() {
            return openCount > 0 ? Rows.at(open, openCount - 1) : NONE;
        }

        private int putInside(int block, int outer) {
            boolean beside = Rows.at(characters, outer) == '(';
            boolean isFirst = Rows.at(firstInside, outer) == NONE;
            int width = Rows.at(widths, block);
            int height = Rows.at(heights, block);
            if (!isFirst && (beside ? height != Rows.at(heights, outer) : width != Rows.at(widths, outer))) {
                return block;
            }
            int distance = Rows.at(beside ? widths : heights, outer);
            int widthTogether = beside ? distance + width : width;
            int heightTogether = beside ? height : distance + height;
            if (widthTogether > LONGEST_SIDE || heightTogether > LONGEST_SIDE) {
                return block;
            }
            setSize(outer, widthTogether, heightTogether);
            Rows.put(distances, block, distance);
            if (isFirst) {
                Rows.put(firstInside, outer, block);
            } else {
                Rows.put(nextBeside, Rows.at(lastInside, outer), block);
            }
            Rows.put(lastInside, outer, block);
            return NONE;
        }

        /** False if the copies would be too wide; then the prefix is the error. */
        private boolean applyPrefix(int prefix, int block) {
            int c = Rows.at(characters, prefix);
            int width = Rows.at(widths, block);
            int height = Rows.at(heights, block);
            Rows.put(firstInside, prefix, block);
            if (c == '^') {
                setSize(prefix, height, width);
            } else if (c == '<') {
                setSize(prefix, width, height);
            } else if (width * (c - '0') <= LONGEST_SIDE) {
                setSize(prefix, width * (c - '0'), height);
            } else {
                return false;
            }
            return true;
        }

        private void setSize(int block, int width, int height) {
            if (block >= 0 && block < widths.length && block < heights.length) {
                widths[block] = width;
                heights[block] = height;
            }
        }

        /** Goes down to the letter of the patch; each step leads to a later character, so the text bounds them. */
        private int colourOfWhole(int column, int row) {
            int x = column;
            int y = row;
            int block = whole;
            for (int i = 0; i < MOST_CHARACTERS; i++) {
                int c = Rows.at(characters, block);
                if (isColour(c)) {
                    return c - 'a';
                }
                int inside = Rows.at(firstInside, block);
                if (c == '(') {
                    inside = blockInsideAt(block, x);
                    x -= Rows.at(distances, inside);
                } else if (c == '[') {
                    inside = blockInsideAt(block, y);
                    y -= Rows.at(distances, inside);
                } else if (c == '<') {
                    x = Rows.at(widths, inside) - 1 - x;
                } else if (c == '^') {
                    int turnedX = x;
                    x = y;
                    y = Rows.at(heights, inside) - 1 - turnedX;
                } else {
                    int width = Rows.at(widths, inside);
                    x = width > 0 ? x % width : 0;
                }
                block = inside;
            }
            return 0;
        }

        private int blockInsideAt(int outer, int distance) {
            int block = Rows.at(firstInside, outer);
            for (int i = 0; i < MOST_CHARACTERS; i++) {
                int next = Rows.at(nextBeside, block);
                if (next == NONE || Rows.at(distances, next) > distance) {
                    return block;
                }
                block = next;
            }
            return block;
        }

        private static boolean isColour(int c) {
            return c >= 'a' && c < 'a' + COLOURS;
        }

        private static boolean isOpening(int c) {
            return c == '(' || c == '[';
        }

        private static boolean isPrefix(int c) {
            return c == '<' || c == '^' || c >= '2' && c <= '9';
        }
    }

    /** A pattern never changes, so that all states that have it can share it. */
    private static final class Pattern {
        private final int width;
        private final int height;
        private final byte[] colours;

        Pattern(int width, int height, byte[] colours) {
            this.width = width;
            this.height = height;
            this.colours = colours;
        }

        int patches() {
            return colours.length;
        }

        int colourOf(int patch) {
            return patch >= 0 && patch < colours.length ? colours[patch] : NONE;
        }

        int colourAt(int x, int y) {
            return x >= 0 && x < width && y >= 0 && y < height ? colourOf(y * width + x) : NONE;
        }

        int patchesOf(int colour, int from, int to) {
            int found = 0;
            for (int i = from; i < to && i < colours.length; i++) {
                if (colourOf(i) == colour) {
                    found++;
                }
            }
            return found;
        }

        int differentColours() {
            int found = 0;
            for (int c = 0; c < COLOURS; c++) {
                if (patchesOf(c, 0, patches()) > 0) {
                    found++;
                }
            }
            return found;
        }

        int seams() {
            int found = 0;
            for (int y = 0; y < height; y++) {
                for (int x = 0; x < width; x++) {
                    found += isSeam(x, y, x + 1, y) ? 1 : 0;
                    found += isSeam(x, y, x, y + 1) ? 1 : 0;
                }
            }
            return found;
        }

        private boolean isSeam(int x, int y, int otherX, int otherY) {
            int other = colourAt(otherX, otherY);
            return other != NONE && other != colourAt(x, y);
        }

        /** The n is told in promise 24: mirrored first, then turned. */
        boolean becomesBy(int n, Pattern other) {
            boolean lies = n % 2 != 0;
            if (other.width != (lies ? height : width) || other.height != (lies ? width : height)) {
                return false;
            }
            for (int y = 0; y < other.height; y++) {
                for (int x = 0; x < other.width; x++) {
                    if (other.colourAt(x, y) != changedColourAt(n, x, y)) {
                        return false;
                    }
                }
            }
            return true;
        }

        /** Goes the way back from the changed pattern: the turns first, then the mirror. */
        private int changedColourAt(int n, int changedX, int changedY) {
            int x = changedX;
            int y = changedY;
            for (int turns = n % 4; turns > 0; turns--) {
                int heightBefore = turns % 2 != 0 ? height : width;
                int turnedX = x;
                x = y;
                y = heightBefore - 1 - turnedX;
            }
            return colourAt(n >= MIRRORED ? width - 1 - x : x, y);
        }

        Pattern withExchanged(int a, int b) {
            byte[] exchanged = new byte[colours.length];
            for (int i = 0; i < colours.length && i < exchanged.length; i++) {
                int colour = colours[i];
                exchanged[i] = (byte) (colour == a ? b : colour == b ? a : colour);
            }
            return new Pattern(width, height, exchanged);
        }
    }

    /** Counts the pieces of a pattern, in rows that are used again for each pattern. */
    private static final class PieceFinder {
        private final boolean[] found = new boolean[MOST_PATCHES];
        private final int[] piece = new int[MOST_PATCHES];
        private int pieceSize;

        int piecesOf(Pattern pattern) {
            int pieces = 0;
            forgetFound();
            for (int i = 0; i < pattern.patches() && i < found.length; i++) {
                if (!found[i]) {
                    findPiece(pattern, i);
                    pieces++;
                }
            }
            return pieces;
        }

        int greatestOf(Pattern pattern) {
            int greatest = 0;
            forgetFound();
            for (int i = 0; i < pattern.patches() && i < found.length; i++) {
                if (!found[i]) {
                    findPiece(pattern, i);
                    greatest = Math.max(greatest, pieceSize);
                }
            }
            return greatest;
        }

        private void forgetFound() {
            for (int i = 0; i < found.length; i++) {
                found[i] = false;
            }
        }

        /** Each patch of the piece is written once, and then asked for its neighbours. */
        private void findPiece(Pattern pattern, int patch) {
            int width = pattern.width;
            int colour = pattern.colourOf(patch);
            pieceSize = 0;
            if (width <= 0) {
                return;
            }
            join(pattern, patch % width, patch / width, colour);
            for (int i = 0; i < pieceSize && i < piece.length; i++) {
                int x = piece[i] % width;
                int y = piece[i] / width;
                join(pattern, x - 1, y, colour);
                join(pattern, x + 1, y, colour);
                join(pattern, x, y - 1, colour);
                join(pattern, x, y + 1, colour);
            }
        }

        private void join(Pattern pattern, int x, int y, int colour) {
            if (pattern.colourAt(x, y) != colour) {
                return;
            }
            int patch = y * pattern.width + x;
            if (patch >= 0 && patch < found.length && !found[patch]) {
                found[patch] = true;
                Rows.put(piece, pieceSize, patch);
                pieceSize++;
            }
        }
    }

    /** The account of the cloth of one colour. */
    private static final class Cloth {
        static final int IN_STOCK = 0;
        static final int GIVEN = 1;
        static final int IN_QUILTS = 2;
        static final int IN_SCRAPS = 3;
        static final int RETURNED = 4;

        private int stock;
        private int given;
        private int inQuilts;
        private int scraps;
        private int returned;

        int pieces(int where) {
            switch (where) {
                case IN_STOCK: return stock;
                case GIVEN: return given;
                case IN_QUILTS: return inQuilts;
                case IN_SCRAPS: return scraps;
                default: return returned;
            }
        }

        void copyFrom(Cloth other) {
            stock = other.stock;
            given = other.given;
            inQuilts = other.inQuilts;
            scraps = other.scraps;
            returned = other.returned;
        }
    }

    private static final class Member {
        private int sewn;
        private int pence;
        private int returned;
        /** By colours, as the cloth is returned by what was given of each. */
        private final int[] given = new int[COLOURS];

        void copyFrom(Member other) {
            sewn = other.sewn;
            pence = other.pence;
            returned = other.returned;
            Rows.copy(other.given, given);
        }
    }

    private static final class Frame {
        /** Null if the frame is empty. */
        private Pattern pattern;
        private int sewn;
        private final int[] sewnBy = new int[MOST_MEMBERS];

        boolean isEmpty() {
            return pattern == null;
        }

        boolean isFinished() {
            return pattern != null && sewn >= patches();
        }

        boolean canBeRecoloured() {
            return pattern != null && sewn == 0;
        }

        int patches() {
            return pattern == null ? 0 : pattern.patches();
        }

        int patchesOf(int colour, int from, int to) {
            return pattern == null ? 0 : pattern.patchesOf(colour, from, to);
        }

        int colourOfNext() {
            return pattern == null ? NONE : pattern.colourOf(sewn);
        }

        /** With null the frame becomes empty. */
        void putOn(Pattern another) {
            pattern = another;
            sewn = 0;
            Rows.clear(sewnBy);
        }

        int exchangeColours(int a, int b) {
            if (pattern == null || a == b) {
                return 0;
            }
            pattern = pattern.withExchanged(a, b);
            return patchesOf(a, 0, patches()) + patchesOf(b, 0, patches());
        }

        /** What the member m gets of the price: a penny that is left over, too, if few enough are before m. */
        int shareOf(int m, int price) {
            int patches = patches();
            if (patches <= 0) {
                return 0;
            }
            int product = price * Rows.at(sewnBy, m);
            int leftOver = price;
            int before = 0;
            for (int k = 0; k < MOST_MEMBERS; k++) {
                int otherProduct = price * Rows.at(sewnBy, k);
                leftOver -= otherProduct / patches;
                int ahead = otherProduct % patches - product % patches;
                if (ahead > 0 || ahead == 0 && k < m) {
                    before++;
                }
            }
            return product / patches + (before < leftOver ? 1 : 0);
        }

        void copyFrom(Frame other) {
            pattern = other.pattern;
            sewn = other.sewn;
            Rows.copy(other.sewnBy, sewnBy);
        }
    }

    /** Everything but the text, the save slots and what is remembered. Its methods change it without any check. */
    private static final class State {
        private int memberCount;
        private int turn;
        private int raffledQuilts;
        private int raffledPatches;
        private int raffledPence;
        private final Member[] members = new Member[MOST_MEMBERS];
        private final Cloth[] cloths = new Cloth[COLOURS];
        private final Frame[] frames = new Frame[FRAMES];

        State() {
            for (int m = 0; m < members.length; m++) {
                members[m] = new Member();
            }
            for (int c = 0; c < cloths.length; c++) {
                cloths[c] = new Cloth();
            }
            for (int f = 0; f < frames.length; f++) {
                frames[f] = new Frame();
            }
        }

        Member memberAt(int m) {
            return m >= 0 && m < memberCount && m < members.length ? members[m] : null;
        }

        Cloth clothAt(int c) {
            return c >= 0 && c < cloths.length ? cloths[c] : null;
        }

        Frame frameAt(int f) {
            return f >= 0 && f < frames.length ? frames[f] : null;
        }

        int usedFrames() {
            int used = 0;
            for (int f = 0; f < FRAMES; f++) {
                Frame frame = frameAt(f);
                if (frame != null && !frame.isEmpty()) {
                    used++;
                }
            }
            return used;
        }

        int clothInAll(int where) {
            int sum = 0;
            for (int c = 0; c < COLOURS; c++) {
                Cloth cloth = clothAt(c);
                if (cloth != null) {
                    sum += cloth.pieces(where);
                }
            }
            return sum;
        }

        int welcomeMember() {
            memberCount++;
            return memberCount - 1;
        }

        void takeGift(Member member, int c, int n) {
            Cloth cloth = clothAt(c);
            if (member == null || cloth == null) {
                return;
            }
            Rows.add(member.given, c, n);
            cloth.given += n;
            cloth.stock += n;
        }

        boolean canSewOn(Frame frame) {
            return !frame.isEmpty() && memberCount > 0;
        }

        int sewPatches(Frame frame, int most) {
            int done = 0;
            for (int i = 0; i < most && sewOne(frame); i++) {
                done++;
            }
            Member member = memberAt(turn);
            if (member != null) {
                member.sewn += done;
            }
            Rows.add(frame.sewnBy, turn, done);
            turn = turn + 1 < memberCount ? turn + 1 : 0;
            return done;
        }

        /** Behind the last patch there is no colour, so no cloth either. */
        private boolean sewOne(Frame frame) {
            Cloth cloth = clothAt(frame.colourOfNext());
            if (cloth == null || cloth.stock <= 0) {
                return false;
            }
            cloth.stock--;
            cloth.inQuilts++;
            frame.sewn++;
            return true;
        }

        int cutUp(Frame frame) {
            int sewn = frame.sewn;
            for (int c = 0; c < COLOURS; c++) {
                Cloth cloth = clothAt(c);
                if (cloth != null) {
                    int cut = frame.patchesOf(c, 0, sewn);
                    cloth.inQuilts -= cut;
                    cloth.scraps += cut;
                }
            }
            frame.putOn(null);
            return sewn;
        }

        int raffleOff(Frame frame, int price) {
            int patches = frame.patches();
            for (int m = 0; m < MOST_MEMBERS; m++) {
                Member member = memberAt(m);
                if (member != null) {
                    member.pence += frame.shareOf(m, price);
                }
            }
            raffledQuilts++;
            raffledPatches += patches;
            raffledPence += price;
            frame.putOn(null);
            return patches;
        }

        int giveBackStock() {
            int before = clothInAll(Cloth.RETURNED);
            for (int c = 0; c < COLOURS; c++) {
                Cloth cloth = clothAt(c);
                if (cloth != null) {
                    giveBackColour(cloth, c);
                }
            }
            return clothInAll(Cloth.RETURNED) - before;
        }

        private void giveBackColour(Cloth cloth, int c) {
            int left = cloth.stock;
            for (int m = 0; m < MOST_MEMBERS; m++) {
                Member member = memberAt(m);
                if (member != null && cloth.given > 0) {
                    // Both can come near 50000 within 512 calls: their product can be greater than the greatest int.
                    int part = (int) ((long) cloth.stock * Rows.at(member.given, c) / cloth.given);
                    member.returned += part;
                    cloth.returned += part;
                    left -= part;
                }
            }
            cloth.scraps += left;
            cloth.stock = 0;
        }

        int missing(int set, int c) {
            Cloth cloth = clothAt(c);
            int needed = 0;
            for (int f = 0; f < FRAMES; f++) {
                Frame frame = frameAt(f);
                if ((set >> f & 1) != 0 && frame != null) {
                    needed += frame.patchesOf(c, frame.sewn, frame.patches());
                }
            }
            return cloth == null ? needed : Math.max(0, needed - cloth.stock);
        }

        boolean canFinishAll(int set) {
            for (int f = 0; f < FRAMES; f++) {
                Frame frame = frameAt(f);
                if ((set >> f & 1) != 0 && (frame == null || frame.isEmpty())) {
                    return false;
                }
            }
            for (int c = 0; c < COLOURS; c++) {
                if (missing(set, c) > 0) {
                    return false;
                }
            }
            return true;
        }

        /** One evening of a simulation; returns the patches that were sewn. */
        int spendEvening(int r) {
            if (memberCount <= 0) {
                return 0;
            }
            if (r % 4 == 0) {
                takeGift(memberAt(r / 4 % memberCount), r / 512 % COLOURS, 1 + r / 32 % 9);
                return 0;
            }
            Frame frame = frameAt(r / 64 % FRAMES);
            if (frame == null || frame.isEmpty()) {
                return 0;
            }
            int sewn = sewPatches(frame, 1 + r / 4 % 9);
            if (frame.isFinished()) {
                raffleOff(frame, EVENING_PRICE);
            }
            return sewn;
        }

        void copyFrom(State other) {
            memberCount = other.memberCount;
            turn = other.turn;
            raffledQuilts = other.raffledQuilts;
            raffledPatches = other.raffledPatches;
            raffledPence = other.raffledPence;
            copyMembers(other);
            copyCloths(other);
            copyFrames(other);
        }

        /** Places without a member are copied too: an undone member must leave nothing behind. */
        private void copyMembers(State other) {
            for (int m = 0; m < members.length && m < other.members.length; m++) {
                Member to = members[m];
                Member from = other.members[m];
                if (to != null && from != null) {
                    to.copyFrom(from);
                }
            }
        }

        private void copyCloths(State other) {
            for (int c = 0; c < cloths.length && c < other.cloths.length; c++) {
                Cloth to = cloths[c];
                Cloth from = other.cloths[c];
                if (to != null && from != null) {
                    to.copyFrom(from);
                }
            }
        }

        private void copyFrames(State other) {
            for (int f = 0; f < frames.length && f < other.frames.length; f++) {
                Frame to = frames[f];
                Frame from = other.frames[f];
                if (to != null && from != null) {
                    to.copyFrom(from);
                }
            }
        }

        static State storedAt(State[] places, int index) {
            return index >= 0 && index < places.length ? places[index] : null;
        }

        /** A place gets its own state once and uses it again, so that actions make no new ones. */
        static void storeAt(State[] places, int index, State present) {
            if (index < 0 || index >= places.length) {
                return;
            }
            State place = places[index];
            if (place == null) {
                place = new State();
                places[index] = place;
            }
            place.copyFrom(present);
        }
    }

    /** The remembered states, in a ring: when it is full, the next one takes the place of the oldest. */
    private static final class History {
        private final State[] ring = new State[MOST_REMEMBERED];
        private int next;
        private int kept;

        void remember(State present) {
            State.storeAt(ring, next, present);
            next = next + 1 < MOST_REMEMBERED ? next + 1 : 0;
            kept = Math.min(kept + 1, MOST_REMEMBERED);
        }

        int takeBack(State present) {
            next = next > 0 ? next - 1 : MOST_REMEMBERED - 1;
            kept--;
            State last = State.storedAt(ring, next);
            if (last != null) {
                present.copyFrom(last);
            }
            return kept;
        }

        void forgetAll() {
            kept = 0;
        }
    }

    /** The commands of promise 25. */
    private static final class Script {
        static boolean succeeds(State state, int command) {
            int second = command / 100 % 10;
            int third = command / 10 % 10;
            int fourth = command % 10;
            int number = command % 100;
            switch (command / 1000) {
                case 1: return sews(state, state.frameAt(second), number);
                case 2: return gives(state, state.memberAt(second), third, fourth);
                case 3: return number == 0 && takesApart(state, state.frameAt(second));
                case 4: return raffles(state, state.frameAt(second), number);
                case 5: return command % 1000 == 0 && returnsCloth(state);
                case 6: return recolours(state, state.frameAt(second), third, fourth);
                case 7: return hasSewn(state.frameAt(second), number);
                case 8: return hasCloth(state.clothAt(second), number);
                case 9: return hasPence(state.memberAt(second), number);
                default: return false;
            }
        }

        private static boolean sews(State state, Frame frame, int most) {
            if (frame == null || most < 1 || !state.canSewOn(frame)) {
                return false;
            }
            state.sewPatches(frame, most);
            return true;
        }

        private static boolean gives(State state, Member member, int c, int n) {
            if (member == null || state.clothAt(c) == null || n < 1) {
                return false;
            }
            state.takeGift(member, c, n);
            return true;
        }

        private static boolean takesApart(State state, Frame frame) {
            if (frame == null || frame.isEmpty()) {
                return false;
            }
            state.cutUp(frame);
            return true;
        }

        private static boolean raffles(State state, Frame frame, int price) {
            if (frame == null || !frame.isFinished()) {
                return false;
            }
            state.raffleOff(frame, price);
            return true;
        }

        private static boolean returnsCloth(State state) {
            state.giveBackStock();
            return true;
        }

        private static boolean recolours(State state, Frame frame, int a, int b) {
            if (frame == null || state.clothAt(a) == null || state.clothAt(b) == null || !frame.canBeRecoloured()) {
                return false;
            }
            frame.exchangeColours(a, b);
            return true;
        }

        private static boolean hasSewn(Frame frame, int least) {
            return frame != null && frame.sewn >= least;
        }

        private static boolean hasCloth(Cloth cloth, int least) {
            return cloth != null && cloth.stock >= least;
        }

        private static boolean hasPence(Member member, int least) {
            return member != null && member.pence >= least;
        }
    }
}
