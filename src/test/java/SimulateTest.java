import java.math.BigInteger;

/** Promise 26 of ../shared/DOC.md (simulate), sentence by sentence; the seeds are made for the wanted evenings. */
public final class SimulateTest extends Guilds {
    private static final long FACTOR = 6364136223846793005L;
    private static final long ADDEND = 1442695040888963407L;
    private static final int MOST_R = MAX;

    private interface Wanted {
        boolean is(int r);
    }

    public static void main(String[] args) {
        numberOfEvenings();
        anySeed();
        withoutMembers();
        sewnAtMost();
        onEachFrame();
        ifItHasAPattern();
        asFarAsTheClothLasts();
        raffledIfAllAreSewn();
        raffledInTheseEvenings();
        givenCloth();
        givenByAMember();
        manyEvenings();
        onACopy();
        CHECKS.close("SimulateTest");
    }

    /** The x whose upper 31 bits are r. */
    private static long xOf(int r, long lowerBits) {
        return (long) r << 33 | lowerBits;
    }

    /** The seed whose first evening has the x. */
    private static long seedOf(long x) {
        long inverse = FACTOR;
        for (int i = 0; i < 6; i++) {
            inverse *= 2 - FACTOR * inverse;
        }
        return (x - ADDEND) * inverse;
    }

    private static long seedOf(int r) {
        return seedOf(xOf(r, 0));
    }

    /** A seed whose first evening has the r, and whose second one has a wanted r. */
    private static long seedOf(int r, Wanted second) {
        for (long lowerBits = 0; lowerBits < 1000000; lowerBits++) {
            long x = xOf(r, lowerBits);
            if (second.is((int) (x * FACTOR + ADDEND >>> 33))) {
                return seedOf(x);
            }
        }
        CHECKS.fail("there is no seed for " + r);
        return 0;
    }

    private static int rOf(Wanted wanted) {
        for (int r = 0; r < 1000000; r++) {
            if (wanted.is(r)) {
                return r;
            }
        }
        CHECKS.fail("there is no such r");
        return 0;
    }

    private static boolean sews(int r, int f, int n) {
        return r % 4 != 0 && r / 64 % 3 == f && 1 + r / 4 % 9 == n;
    }

    /** A guild with much cloth of a. */
    private static QuiltGuild rich(int members) {
        QuiltGuild x = with(members);
        for (int i = 0; i < 9; i++) {
            x.give(0, 0, 99);
        }
        return x;
    }

    // ---- the arguments

    /** "m: number of evenings, 1 to 99" */
    private static void numberOfEvenings() {
        QuiltGuild x = rich(1);
        startWith(x, 0, "28^28a");
        eq("the fewest", x.simulate(seedOf(1), 1), 1);
        int most = x.simulate(seedOf(1), 99);
        eq("the most", most, simulated(x, seedOf(1), 99, 256));
        int[] wrong = {0, -1, 100, 101, MIN, MAX};
        for (int m : wrong) {
            refused("as many as " + m, YOUNG, ARGUMENT, y -> y.simulate(0, m));
            refused("without members", FRESH, ARGUMENT, y -> y.simulate(0, m));
        }
    }

    /** "seed: any long" ".. replaces x by x * .. + .. (with long overflow), and r = (int) (x >>> 33) is computed." */
    private static void anySeed() {
        long[] seeds = {0, 1, -1, 2, Long.MAX_VALUE, Long.MIN_VALUE, Long.MAX_VALUE - 1, Long.MIN_VALUE + 1,
            1L << 32, 1L << 33, -(1L << 33), 123456789012345L, -987654321098765432L, FACTOR, ADDEND, -ADDEND};
        for (long seed : seeds) {
            QuiltGuild x = rich(1);
            startWith(x, 0, "28^28a");
            for (int m = 1; m <= 99; m += 7) {
                eq("the seed " + seed + ", " + m, x.simulate(seed, m), simulated(x, seed, m, 256));
            }
        }
        QuiltGuild x = rich(1);
        startWith(x, 0, "28^28a");
        startWith(x, 1, "28^28a");
        startWith(x, 2, "28^28a");
        for (int r = MOST_R - 20; r < MOST_R; r++) {
            eq("r near the greatest one", x.simulate(seedOf(r), 1), r % 4 == 0 ? 0 : 1 + r / 4 % 9);
        }
        eq("the greatest r", x.simulate(seedOf(MOST_R), 1), 1 + MOST_R / 4 % 9);
        eq("the smallest r", x.simulate(seedOf(0), 1), 0);
        eq("the lower bits do not matter", x.simulate(seedOf(xOf(5, (1L << 33) - 1)), 1), 2);
    }

    /** The patches that are sewn on the frame 0 alone, with cloth enough, by numbers without any bound. */
    private static int simulated(QuiltGuild x, long seed, int m, int patches) {
        BigInteger modulus = BigInteger.ONE.shiftLeft(64);
        BigInteger number = BigInteger.valueOf(seed).mod(modulus);
        int sewn = 0;
        boolean raffled = x.frame(0, 2) > 0;
        for (int i = 0; i < m; i++) {
            number = number.multiply(BigInteger.valueOf(FACTOR)).add(BigInteger.valueOf(ADDEND)).mod(modulus);
            int r = number.shiftRight(33).intValueExact();
            if (r % 4 != 0 && r / 64 % 3 == 0) {
                sewn += Math.min(1 + r / 4 % 9, patches - sewn);
                raffled |= sewn == patches;
            }
        }
        return (raffled ? 1000 : 0) + sewn;
    }

    // ---- the evenings

    /** "If there are no members, nothing else happens." */
    private static void withoutMembers() {
        QuiltGuild x = framed(0, "a");
        startWith(x, 1, "b");
        startWith(x, 2, "c");
        for (long seed = -20; seed < 20; seed++) {
            eq("nothing", x.simulate(seed, 99), 0);
        }
        for (int r = 0; r < 8; r++) {
            eq("nothing by " + r, x.simulate(seedOf(r), 1), 0);
        }
        QuiltGuild y = with(1);
        y.give(0, 0, 9);
        y.save(0);
        startWith(y, 0, "a");
        eq("with a member", y.simulate(seedOf(1), 1), 1001);
        y.undo();
        y.undo();
        y.undo();
        startWith(y, 0, "a");
        eq("without it", y.simulate(seedOf(1), 1), 0);
    }

    /** "1 + r / 4 % 9 patches at most are sewn" */
    private static void sewnAtMost() {
        QuiltGuild x = rich(1);
        startWith(x, 0, "28^28a");
        startWith(x, 1, "(5a)");
        for (int n = 1; n <= 9; n++) {
            int most = n;
            for (int rest = 1; rest <= 3; rest++) {
                int last = rest;
                int r = rOf(number -> sews(number, 0, most) && number % 4 == last);
                eq("as far as told", x.simulate(seedOf(r), 1), most);
                int other = rOf(number -> sews(number, 1, most) && number % 4 == last);
                eq("as far as the pattern goes", x.simulate(seedOf(other), 1), most >= 5 ? 1005 : most);
            }
        }
    }

    /** "on the frame r / 64 % 3" */
    private static void onEachFrame() {
        String[] texts = {"4a", "6a", "8a"};
        for (int f = 0; f < 3; f++) {
            int frame = f;
            QuiltGuild x = rich(2);
            startWith(x, f, texts[f]);
            for (int g = 0; g < 3; g++) {
                int other = g;
                int r = rOf(number -> sews(number, other, 9));
                eq("on " + f + ", sewn on " + g, x.simulate(seedOf(r), 1), f == g ? 1004 + 2 * f : 0);
            }
            for (int blocks = 0; blocks < 9; blocks++) {
                int r = 64 * blocks + 1;
                eq("64 after 64", x.simulate(seedOf(r), 1) > 0 ? 1 : 0, blocks % 3 == frame ? 1 : 0);
                eq("the last one of 64", x.simulate(seedOf(r + 62), 1) > 0 ? 1 : 0, blocks % 3 == frame ? 1 : 0);
            }
        }
    }

    /** "if it has a pattern" */
    private static void ifItHasAPattern() {
        QuiltGuild x = rich(1);
        for (int f = 0; f < 3; f++) {
            int frame = f;
            eq("empty", x.simulate(seedOf(rOf(r -> sews(r, frame, 9))), 1), 0);
        }
        startWith(x, 0, "a");
        long twice = seedOf(rOf(r -> sews(r, 0, 9)), r -> sews(r, 0, 9));
        eq("once", x.simulate(twice, 1), 1001);
        eq("it is empty then", x.simulate(twice, 2), 1001);
        x.takeApart(0);
        eq("taken apart", x.simulate(twice, 2), 0);
    }

    /** Sewn as promise 16 tells: "as far as the cloth lasts". */
    private static void asFarAsTheClothLasts() {
        long nine = seedOf(rOf(r -> sews(r, 0, 9)));
        QuiltGuild x = framed(1, "(aaabaaaaa)");
        eq("no cloth", x.simulate(nine, 1), 0);
        x.give(0, 0, 2);
        eq("two pieces", x.simulate(nine, 1), 2);
        x.give(0, 0, 7);
        eq("the one without cloth ends it", x.simulate(nine, 1), 3);
        x.give(0, 1, 1);
        eq("all nine", x.simulate(nine, 1), 1009);
        x.sew(0, 8);
        eq("the last one", x.simulate(nine, 1), 1001);
    }

    /** "and if all its patches are sewn then, it is raffled" */
    private static void raffledIfAllAreSewn() {
        long one = seedOf(rOf(r -> sews(r, 0, 1)));
        long five = seedOf(rOf(r -> sews(r, 0, 5)));
        QuiltGuild x = rich(1);
        startWith(x, 0, "6a");
        eq("not all", x.simulate(five, 1), 5);
        x.sew(0, 1);
        eq("all", x.simulate(five, 1), 1005);
        x.sew(0, 4);
        eq("the last one", x.simulate(one, 1), 1001);
        x.sew(0, 1);
        eq("finished before, 0 are sewn", x.simulate(one, 1), 1000);
        long gift = seedOf(rOf(r -> r % 4 == 0 && r / 64 % 3 == 0));
        eq("not by an evening of gifts", x.simulate(gift, 1), 0);
        long other = seedOf(rOf(r -> sews(r, 1, 9)));
        eq("not by an evening on another frame", x.simulate(other, 1), 0);
    }

    /** "1000 * (the quilts that were raffled in these evenings) + (the patches that were sewn in them ..)" */
    private static void raffledInTheseEvenings() {
        QuiltGuild x = rich(2);
        startWith(x, 0, "2a");
        x.sew(0, 2);
        x.raffle(0, 100);
        startWith(x, 0, "2a");
        startWith(x, 1, "(aa)");
        startWith(x, 2, "[aa]");
        x.sew(1, 1);
        eq("all three, without those of before", x.simulate(12, 99), 3005);
        x.sew(0, 2);
        x.sew(1, 1);
        x.sew(2, 2);
        eq("all three were finished", x.simulate(12, 99), 3000);
        x.raffle(2, 0);
        eq("two are left", x.simulate(12, 99), 2000);
        x.takeApart(0);
        eq("one is left", x.simulate(12, 99), 1000);
        x.takeApart(1);
        eq("none is left", x.simulate(12, 99), 0);
    }

    /** "gives 1 + r / 32 % 9 pieces of the colour r / 512 % 6" */
    private static void givenCloth() {
        for (int c = 0; c < 6; c++) {
            for (int n = 1; n <= 9; n++) {
                int colour = c;
                int pieces = n;
                int r = rOf(number -> number % 4 == 0 && number / 512 % 6 == colour && 1 + number / 32 % 9 == pieces);
                long seed = seedOf(r, number -> sews(number, 0, 9));
                QuiltGuild x = framed(1, "9" + (char) ('a' + c));
                eq("none is sewn in an evening of gifts", x.simulate(seed, 1), 0);
                eq(n + " pieces of " + c, x.simulate(seed, 2), n == 9 ? 1009 : n);
                QuiltGuild other = framed(1, "9" + (char) ('a' + (c + 1) % 6));
                eq("none of another colour", other.simulate(seed, 2), 0);
            }
        }
    }

    /** "the member r / 4 % (their number) gives": each one can, whatever their number. */
    private static void givenByAMember() {
        for (int members = 1; members <= 5; members++) {
            QuiltGuild x = framed(members, "9a");
            for (int m = 0; m < 2 * members; m++) {
                int r = 4 * m;
                int pieces = 1 + r / 32 % 9;
                eq("given by one of " + members, x.simulate(seedOf(r, number -> sews(number, 0, 9)), 2), pieces);
            }
            int last = MOST_R - 3;
            QuiltGuild y = framed(members, "9" + (char) ('a' + last / 512 % 6));
            eq("the last r", y.simulate(seedOf(last, number -> sews(number, 0, 1)), 2), 1);
        }
    }

    /** As many patches as can be sewn in 99 evenings stay below 999. */
    private static void manyEvenings() {
        long best = 0;
        for (long seed = 0; seed < 2000; seed++) {
            best = evenings(seed) > evenings(best) ? seed : best;
        }
        QuiltGuild x = rich(1);
        startWith(x, 0, "28^28a");
        startWith(x, 1, "28^28a");
        startWith(x, 2, "28^28a");
        eq("many patches", x.simulate(best, 99), evenings(best));
        CHECKS.holds("very many", evenings(best) > 450);
    }

    private static int evenings(long seed) {
        int sewn = 0;
        long x = seed;
        for (int i = 0; i < 99; i++) {
            x = x * FACTOR + ADDEND;
            int r = (int) (x >>> 33);
            sewn += r % 4 == 0 ? 0 : 1 + r / 4 % 9;
        }
        return sewn;
    }

    /** "Simulates m evenings on a copy of the state." */
    private static void onACopy() {
        long sewn = seedOf(rOf(r -> sews(r, 0, 9)));
        only("sewn and raffled", BUSY, x -> x.simulate(sewn, 1), 1001);
        only("given", FULL, x -> x.simulate(seedOf(0), 1), 0);
        only("nobody", FRESH, x -> x.simulate(1, 99), 0);
        QuiltGuild x = rich(2);
        startWith(x, 0, "9a");
        eq("in one", x.simulate(sewn, 1), 1009);
        eq("in the next one anew", x.simulate(sewn, 1), 1009);
        eq("a script knows nothing of it", x.runScript(1, 7001), 0);
    }
}
