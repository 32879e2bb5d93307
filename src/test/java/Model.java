import java.util.ArrayDeque;
import java.util.Deque;
import java.util.function.BooleanSupplier;

/**
 * The document once more, as plainly as it can be told and with nothing shared with the program: patterns are laid out
 * block by block by a reader that calls itself, states are copied whole, and scripts call the actions and catch.
 */
final class Model {
    static final int NONE = -9;

    static final class ReadingError extends RuntimeException {
        private static final long serialVersionUID = 1L;
        final int position;

        ReadingError(int position) {
            super(null, null, false, false);
            this.position = position;
        }
    }

    static final class State {
        int members;
        int turn;
        int[][] account = new int[5][4];
        int[][] gifts = new int[5][6];
        int[] stock = new int[6];
        int[] raffledCloth = new int[6];
        int[] scraps = new int[6];
        int[] returned = new int[6];
        int quilts;
        int patches;
        int pence;
        int[][][] pattern = new int[3][][];
        int[] sewn = new int[3];
        int[][] sewnBy = new int[3][5];

        State copy() {
            State s = new State();
            s.members = members;
            s.turn = turn;
            s.quilts = quilts;
            s.patches = patches;
            s.pence = pence;
            s.account = deep(account);
            s.gifts = deep(gifts);
            s.stock = stock.clone();
            s.raffledCloth = raffledCloth.clone();
            s.scraps = scraps.clone();
            s.returned = returned.clone();
            s.sewn = sewn.clone();
            s.sewnBy = deep(sewnBy);
            for (int f = 0; f < 3; f++) {
                s.pattern[f] = pattern[f] == null ? null : deep(pattern[f]);
            }
            return s;
        }
    }

    static int[][] deep(int[][] rows) {
        int[][] copy = new int[rows.length][];
        for (int i = 0; i < rows.length; i++) {
            copy[i] = rows[i].clone();
        }
        return copy;
    }

    private String text = "";
    private State s = new State();
    private final Deque<State> remembered = new ArrayDeque<>();
    private final State[] slots = new State[2];
    private int at;

    // ---- text

    int append(int c) {
        argument(c >= 0 && c <= 255);
        state(text.length() < 60);
        text += (char) c;
        return text.length();
    }

    int clearText() {
        int length = text.length();
        text = "";
        return length;
    }

    int errorPosition() {
        try {
            read();
            return NONE;
        } catch (ReadingError e) {
            return e.position;
        }
    }

    private int[][] read() {
        at = 0;
        int[][] block = block();
        if (at < text.length()) {
            throw new ReadingError(at);
        }
        return block;
    }

    private char next() {
        if (at >= text.length()) {
            throw new ReadingError(text.length());
        }
        return text.charAt(at);
    }

    private int[][] block() {
        int begin = at;
        char c = next();
        at++;
        if (c >= 'a' && c <= 'f') {
            return new int[][] {{c - 'a'}};
        }
        if (c >= '2' && c <= '9') {
            int[][] one = block();
            int[][] all = one;
            for (int i = 1; i < c - '0'; i++) {
                all = beside(all, one, begin);
            }
            return all;
        }
        if (c == '<') {
            return mirror(block());
        }
        if (c == '^') {
            return turn(block());
        }
        if (c == '(') {
            return group(')', true);
        }
        if (c == '[') {
            return group(']', false);
        }
        throw new ReadingError(begin);
    }

    private int[][] group(char end, boolean beside) {
        int[][] all = block();
        while (next() != end) {
            int begin = at;
            int[][] more = block();
            all = beside ? beside(all, more, begin) : below(all, more, begin);
        }
        at++;
        return all;
    }

    private static int[][] beside(int[][] a, int[][] b, int error) {
        if (a.length != b.length || a[0].length + b[0].length > 16) {
            throw new ReadingError(error);
        }
        int[][] all = new int[a.length][a[0].length + b[0].length];
        for (int y = 0; y < a.length; y++) {
            System.arraycopy(a[y], 0, all[y], 0, a[y].length);
            System.arraycopy(b[y], 0, all[y], a[y].length, b[y].length);
        }
        return all;
    }

    private static int[][] below(int[][] a, int[][] b, int error) {
        if (a[0].length != b[0].length || a.length + b.length > 16) {
            throw new ReadingError(error);
        }
        int[][] all = new int[a.length + b.length][];
        for (int y = 0; y < all.length; y++) {
            all[y] = y < a.length ? a[y] : b[y - a.length];
        }
        return all;
    }

    static int[][] mirror(int[][] a) {
        int[][] m = new int[a.length][a[0].length];
        for (int y = 0; y < a.length; y++) {
            for (int x = 0; x < a[0].length; x++) {
                m[y][a[0].length - 1 - x] = a[y][x];
            }
        }
        return m;
    }

    /** What lies in the row y comes into the column that is as far from the right; the column x becomes the row x. */
    static int[][] turn(int[][] a) {
        int[][] t = new int[a[0].length][a.length];
        for (int y = 0; y < a.length; y++) {
            for (int x = 0; x < a[0].length; x++) {
                t[x][a.length - 1 - y] = a[y][x];
            }
        }
        return t;
    }

    // ---- what there is

    int about(int what) {
        argument(what >= 0 && what <= 8);
        int frames = 0;
        for (int f = 0; f < 3; f++) {
            frames += s.pattern[f] == null ? 0 : 1;
        }
        return new int[] {s.members, s.members == 0 ? NONE : s.turn, frames, s.quilts, s.patches, s.pence, sum(s.stock),
            sum(s.scraps), sum(s.returned)}[what];
    }

    private static int sum(int[] row) {
        int sum = 0;
        for (int n : row) {
            sum += n;
        }
        return sum;
    }

    int member(int m, int what) {
        bounds(m >= 0 && m < s.members);
        argument(what >= 0 && what <= 3);
        return s.account[m][what];
    }

    int cloth(int c, int what) {
        bounds(c >= 0 && c < 6);
        argument(what >= 0 && what <= 4);
        int inQuilts = s.raffledCloth[c];
        for (int f = 0; f < 3; f++) {
            inQuilts += patches(f, c, 0, s.sewn[f]);
        }
        return new int[] {s.stock[c], given(c), inQuilts, s.scraps[c], s.returned[c]}[what];
    }

    private int given(int c) {
        int given = 0;
        for (int m = 0; m < 5; m++) {
            given += s.gifts[m][c];
        }
        return given;
    }

    private int area(int f) {
        return s.pattern[f] == null ? 0 : s.pattern[f].length * s.pattern[f][0].length;
    }

    private int patches(int f, int c, int from, int to) {
        int found = 0;
        for (int i = from; i < to; i++) {
            found += s.pattern[f][i / s.pattern[f][0].length][i % s.pattern[f][0].length] == c ? 1 : 0;
        }
        return found;
    }

    int frame(int f, int what) {
        bounds(f >= 0 && f < 3);
        argument(what >= 0 && what <= 6);
        int[][] p = s.pattern[f];
        if (p == null) {
            return 0;
        }
        switch (what) {
            case 0: return p[0].length;
            case 1: return p.length;
            case 2: return s.sewn[f];
            case 3: {
                int colours = 0;
                for (int c = 0; c < 6; c++) {
                    colours += patches(f, c, 0, area(f)) > 0 ? 1 : 0;
                }
                return colours;
            }
            case 4: {
                int seams = 0;
                for (int y = 0; y < p.length; y++) {
                    for (int x = 0; x < p[0].length; x++) {
                        seams += x > 0 && p[y][x - 1] != p[y][x] ? 1 : 0;
                        seams += y > 0 && p[y - 1][x] != p[y][x] ? 1 : 0;
                    }
                }
                return seams;
            }
            default: return pieces(p, what == 6);
        }
    }

    /** Gives each patch a number, and lets neighbours of one colour take the smaller one until nothing changes. */
    private static int pieces(int[][] p, boolean greatest) {
        int width = p[0].length;
        int[] number = new int[p.length * width];
        for (int i = 0; i < number.length; i++) {
            number[i] = i;
        }
        for (boolean changed = true; changed;) {
            changed = false;
            for (int i = 0; i < number.length; i++) {
                for (int k : new int[] {i + 1, i + width}) {
                    boolean neighbours = k < number.length && (k != i + 1 || width == 1 || k % width != 0);
                    if (neighbours && p[i / width][i % width] == p[k / width][k % width] && number[i] != number[k]) {
                        number[i] = Math.min(number[i], number[k]);
                        number[k] = number[i];
                        changed = true;
                    }
                }
            }
        }
        int[] sizes = new int[number.length];
        for (int n : number) {
            sizes[n]++;
        }
        int pieces = 0;
        int most = 0;
        for (int size : sizes) {
            pieces += size > 0 ? 1 : 0;
            most = Math.max(most, size);
        }
        return greatest ? most : pieces;
    }

    int patch(int f, int x, int y) {
        bounds(f >= 0 && f < 3);
        argument(x >= 0 && y >= 0);
        int[][] p = s.pattern[f];
        return p == null || y >= p.length || x >= p[0].length ? NONE : p[y][x];
    }

    int count(int f, int c, boolean sewn) {
        bounds(f >= 0 && f < 3 && c >= 0 && c < 6);
        return patches(f, c, 0, sewn ? s.sewn[f] : area(f));
    }

    boolean same(int f, int how) {
        bounds(f >= 0 && f < 3);
        argument(how >= 0 && how <= 2);
        int[][] p = s.pattern[f];
        if (p == null) {
            return true;
        }
        int[][] other = how == 0 ? mirror(p) : how == 1 ? turn(turn(p)) : turn(p);
        return java.util.Arrays.deepEquals(p, other);
    }

    // ---- actions

    private void remember() {
        remembered.addLast(s.copy());
        if (remembered.size() > 14) {
            remembered.removeFirst();
        }
    }

    int addMember() {
        state(s.members < 5);
        remember();
        return s.members++;
    }

    int give(int m, int c, int n) {
        bounds(m >= 0 && m < s.members && c >= 0 && c < 6);
        argument(n >= 1 && n <= 99);
        remember();
        s.gifts[m][c] += n;
        s.account[m][2] += n;
        s.stock[c] += n;
        return s.stock[c];
    }

    int start(int f) {
        bounds(f >= 0 && f < 3);
        state(errorPosition() == NONE && s.pattern[f] == null);
        remember();
        s.pattern[f] = deep(read());
        return area(f);
    }

    int recolour(int f, int a, int b) {
        bounds(f >= 0 && f < 3 && a >= 0 && a < 6 && b >= 0 && b < 6);
        state(s.pattern[f] != null && s.sewn[f] == 0);
        remember();
        int changed = 0;
        for (int[] row : s.pattern[f]) {
            for (int x = 0; x < row.length; x++) {
                int before = row[x];
                row[x] = before == a ? b : before == b ? a : before;
                changed += row[x] != before ? 1 : 0;
            }
        }
        return changed;
    }

    int sew(int f, int n) {
        bounds(f >= 0 && f < 3);
        argument(n >= 1 && n <= 99);
        state(s.pattern[f] != null && s.members > 0);
        remember();
        int done = 0;
        while (done < n && s.sewn[f] < area(f)) {
            int width = s.pattern[f][0].length;
            int c = s.pattern[f][s.sewn[f] / width][s.sewn[f] % width];
            if (s.stock[c] == 0) {
                break;
            }
            s.stock[c]--;
            s.sewn[f]++;
            s.sewnBy[f][s.turn]++;
            s.account[s.turn][0]++;
            done++;
        }
        s.turn = (s.turn + 1) % s.members;
        return done;
    }

    private void empty(int f) {
        s.pattern[f] = null;
        s.sewn[f] = 0;
        s.sewnBy[f] = new int[5];
    }

    int takeApart(int f) {
        bounds(f >= 0 && f < 3);
        state(s.pattern[f] != null);
        remember();
        int sewn = s.sewn[f];
        for (int c = 0; c < 6; c++) {
            s.scraps[c] += patches(f, c, 0, sewn);
        }
        empty(f);
        return sewn;
    }

    private boolean finished(int f) {
        return s.pattern[f] != null && s.sewn[f] == area(f);
    }

    private int[] shares(int f, int price) {
        int[] shares = new int[5];
        int[] rest = new int[5];
        int left = price;
        for (int m = 0; m < 5; m++) {
            shares[m] = price * s.sewnBy[f][m] / area(f);
            rest[m] = price * s.sewnBy[f][m] % area(f);
            left -= shares[m];
        }
        for (; left > 0; left--) {
            int best = 0;
            for (int m = 1; m < 5; m++) {
                best = rest[m] > rest[best] ? m : best;
            }
            shares[best]++;
            rest[best] = -1;
        }
        return shares;
    }

    int raffle(int f, int price) {
        bounds(f >= 0 && f < 3);
        argument(price >= 0 && price <= 9999);
        state(finished(f));
        remember();
        int[] shares = shares(f, price);
        for (int m = 0; m < 5; m++) {
            s.account[m][1] += shares[m];
        }
        int area = area(f);
        s.quilts++;
        s.patches += area;
        s.pence += price;
        for (int c = 0; c < 6; c++) {
            s.raffledCloth[c] += patches(f, c, 0, area);
        }
        empty(f);
        return area;
    }

    int returnCloth() {
        remember();
        int all = 0;
        for (int c = 0; c < 6; c++) {
            long stock = s.stock[c];
            for (int m = 0; m < 5 && given(c) > 0; m++) {
                int part = (int) (stock * s.gifts[m][c] / given(c));
                s.account[m][3] += part;
                s.returned[c] += part;
                s.stock[c] -= part;
                all += part;
            }
            s.scraps[c] += s.stock[c];
            s.stock[c] = 0;
        }
        return all;
    }

    int undo() {
        state(!remembered.isEmpty());
        s = remembered.removeLast();
        return remembered.size();
    }

    // ---- what would be

    int lacks(int set, int c) {
        bounds(c >= 0 && c < 6);
        argument(set >= 0 && set <= 7);
        int missing = -s.stock[c];
        for (int f = 0; f < 3; f++) {
            missing += (set & 1 << f) != 0 ? patches(f, c, s.sewn[f], area(f)) : 0;
        }
        return Math.max(0, missing);
    }

    int canFinish() {
        int[] byFrames = {0, 1, 2, 4, 3, 5, 6, 7};
        int best = 0;
        for (int set : byFrames) {
            boolean fits = true;
            for (int f = 0; f < 3; f++) {
                fits &= (set & 1 << f) == 0 || s.pattern[f] != null;
            }
            for (int c = 0; c < 6; c++) {
                fits &= lacks(set, c) == 0;
            }
            best = fits && Integer.bitCount(set) > Integer.bitCount(best) ? set : best;
        }
        return best;
    }

    int wouldGet(int f, int m, int price) {
        bounds(f >= 0 && f < 3 && m >= 0 && m < s.members);
        argument(price >= 0 && price <= 9999);
        return finished(f) ? shares(f, price)[m] : NONE;
    }

    int becomes(int f, int g) {
        bounds(f >= 0 && f < 3 && g >= 0 && g < 3);
        if (s.pattern[f] == null || s.pattern[g] == null) {
            return NONE;
        }
        for (int n = 0; n < 8; n++) {
            int[][] p = n >= 4 ? mirror(s.pattern[f]) : s.pattern[f];
            for (int i = 0; i < n % 4; i++) {
                p = turn(p);
            }
            if (java.util.Arrays.deepEquals(p, s.pattern[g])) {
                return n;
            }
        }
        return NONE;
    }

    // ---- scripts, simulations

    private Model copy() {
        Model copy = new Model();
        copy.s = s.copy();
        return copy;
    }

    int runScript(int n, long script) {
        argument(n >= 1 && n <= 4 && script >= 0 && Long.toString(script).length() <= 4 * n);
        Model copy = copy();
        String digits = String.format("%0" + 4 * n + "d", script);
        for (int i = 0; i < n; i++) {
            String group = digits.substring(4 * i, 4 * i + 4);
            try {
                if (!copy.command(group)) {
                    return i;
                }
            } catch (RuntimeException e) {
                return i;
            }
        }
        return NONE;
    }

    private boolean command(String group) {
        int a = group.charAt(1) - '0';
        int x = group.charAt(2) - '0';
        int y = group.charAt(3) - '0';
        int xy = 10 * x + y;
        switch (group.charAt(0)) {
            case '1': return done(() -> sew(a, xy) >= 0);
            case '2': return done(() -> give(a, x, y) >= 0);
            case '3': return group.endsWith("00") && done(() -> takeApart(a) >= 0);
            case '4': return done(() -> raffle(a, xy) >= 0);
            case '5': return group.equals("5000") && done(() -> returnCloth() >= 0);
            case '6': return done(() -> recolour(a, x, y) >= 0);
            case '7': return frame(a, 2) >= xy;
            case '8': return cloth(a, 0) >= xy;
            case '9': return member(a, 1) >= xy;
            default: return false;
        }
    }

    private static boolean done(BooleanSupplier action) {
        return action.getAsBoolean();
    }

    int simulate(long seed, int m) {
        argument(m >= 1 && m <= 99);
        Model copy = copy();
        int sewn = 0;
        long x = seed;
        for (int i = 0; i < m; i++) {
            x = x * 6364136223846793005L + 1442695040888963407L;
            int r = (int) (x >>> 33);
            int f = r / 64 % 3;
            if (s.members == 0) {
                continue;
            }
            if (r % 4 == 0) {
                copy.give(r / 4 % s.members, r / 512 % 6, 1 + r / 32 % 9);
            } else if (copy.s.pattern[f] != null) {
                sewn += copy.sew(f, 1 + r / 4 % 9);
                if (copy.finished(f)) {
                    copy.raffle(f, 100);
                }
            }
        }
        return 1000 * (copy.s.quilts - s.quilts) + Math.min(sewn, 999);
    }

    // ---- save slots

    int save(int slot) {
        bounds(slot == 0 || slot == 1);
        slots[slot] = s.copy();
        return s.members;
    }

    int restore(int slot) {
        bounds(slot == 0 || slot == 1);
        state(slots[slot] != null);
        s = slots[slot].copy();
        remembered.clear();
        return s.members;
    }

    // ---- exceptions

    private static void argument(boolean holds) {
        if (!holds) {
            throw new IllegalArgumentException();
        }
    }

    private static void bounds(boolean holds) {
        if (!holds) {
            throw new IndexOutOfBoundsException();
        }
    }

    private static void state(boolean holds) {
        if (!holds) {
            throw new IllegalStateException();
        }
    }
}
