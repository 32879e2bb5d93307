/** Promises 21 to 24 of ../shared/DOC.md ("what would be"), sentence by sentence. */
public final class WouldBeTest extends Guilds {
    private static final String CHIRAL = "[(abc)(def)]";

    public static void main(String[] args) {
        lacksBySets();
        lacksWhatIsNotSewn();
        lacksByColours();
        canFinishEachSet();
        canFinishTheMostFrames();
        canFinishTheSmallestNumber();
        canFinishFramesWithPatterns();
        canFinishWithSewnPatches();
        wouldGetIfRaffled();
        wouldGetNone();
        wouldGetWhatTheRafflePays();
        becomesEach();
        becomesTheSmallestNumber();
        becomesNone();
        allOfThemChangeNothing();
        CHECKS.close("WouldBeTest");
    }

    /** Frames whose patterns have as many patches of the colour a as told, 0 for none, and a stock of it. */
    private static QuiltGuild needing(int first, int second, int third, int stock) {
        QuiltGuild x = with(1);
        int[] needs = {first, second, third};
        for (int f = 0; f < 3; f++) {
            if (needs[f] > 0) {
                startWith(x, f, needs[f] == 1 ? "a" : needs[f] + "a");
            }
        }
        if (stock > 0) {
            x.give(0, 0, stock);
        }
        return x;
    }

    // ---- lacks

    /** "set: frames, as bits (bit f for the frame f)" "(0 if it suffices)" */
    private static void lacksBySets() {
        for (int stock = 0; stock <= 8; stock++) {
            QuiltGuild x = needing(1, 2, 4, stock);
            for (int set = 0; set <= 7; set++) {
                eq("missing for the set " + set + " with " + stock, x.lacks(set, 0), Math.max(0, set - stock));
            }
        }
        CHECKS.argument("a set of -1", () -> needing(1, 2, 4, 0).lacks(-1, 0));
        CHECKS.argument("a set of 8", () -> needing(1, 2, 4, 0).lacks(8, 0));
        QuiltGuild x = new QuiltGuild();
        for (int set = 0; set <= 7; set++) {
            eq("empty frames lack nothing", x.lacks(set, 0), 0);
        }
        startWith(x, 1, "28^28a");
        eq("all of 256", x.lacks(2, 0), 256);
        eq("with empty frames", x.lacks(7, 0), 256);
        eq("without it", x.lacks(5, 0), 0);
    }

    /** "how many pieces of this colour are missing in the stock to finish all these frames" */
    private static void lacksWhatIsNotSewn() {
        QuiltGuild x = framed(1, "(aaba)");
        eq("all of a", x.lacks(1, 0), 3);
        x.give(0, 0, 1);
        eq("one is in the stock", x.lacks(1, 0), 2);
        x.sew(0, 1);
        eq("one is sewn", x.lacks(1, 0), 2);
        x.give(0, 0, 2);
        eq("it just suffices", x.lacks(1, 0), 0);
        x.sew(0, 9);
        eq("one is left for the last patch", x.lacks(1, 0), 0);
        eq("b is missing", x.lacks(1, 1), 1);
        x.give(0, 1, 1);
        x.sew(0, 9);
        eq("finished", x.lacks(1, 0) + x.lacks(1, 1), 0);
        startWith(x, 1, "a");
        eq("a finished one and another one", x.lacks(3, 0), 1);
        x.takeApart(0);
        eq("scraps are no stock", x.lacks(3, 0), 1);
        x.undo();
        x.raffle(0, 3);
        eq("a raffled one needs nothing", x.lacks(1, 0), 0);
    }

    private static void lacksByColours() {
        QuiltGuild x = framed(1, "(abbcccf)");
        int[] due = {1, 2, 3, 0, 0, 1};
        for (int c = 0; c < 6; c++) {
            eq("of the colour " + c, x.lacks(1, c), due[c]);
        }
        x.give(0, 2, 99);
        eq("much of c", x.lacks(1, 2), 0);
        eq("it helps no other colour", x.lacks(1, 1), 2);
        x.recolour(0, 1, 2);
        eq("recoloured, b", x.lacks(1, 1), 3);
        eq("recoloured, c", x.lacks(1, 2), 0);
    }

    // ---- canFinish

    private static void finishes(int first, int second, int third, int stock, int due) {
        eq(first + ", " + second + ", " + third + " with " + stock, needing(first, second, third, stock).canFinish(),
            due);
    }

    /** "the sets of frames with patterns (as bits) for which no cloth is missing": each set can be the answer. */
    private static void canFinishEachSet() {
        finishes(1, 1, 1, 0, 0);
        finishes(1, 2, 2, 1, 1);
        finishes(2, 1, 2, 1, 2);
        finishes(2, 2, 1, 1, 4);
        finishes(1, 1, 3, 2, 3);
        finishes(1, 3, 1, 2, 5);
        finishes(3, 1, 1, 2, 6);
        finishes(1, 1, 1, 3, 7);
    }

    /** "the one with the most frames" */
    private static void canFinishTheMostFrames() {
        finishes(2, 1, 1, 2, 6);
        finishes(1, 9, 9, 9, 1);
        finishes(9, 1, 8, 9, 6);
        finishes(2, 3, 4, 9, 7);
        finishes(2, 3, 4, 8, 3);
        finishes(4, 3, 2, 8, 3);
        finishes(4, 3, 2, 6, 5);
        finishes(4, 3, 2, 5, 6);
        finishes(4, 3, 2, 4, 1);
        finishes(4, 3, 2, 3, 2);
        finishes(4, 3, 2, 2, 4);
        finishes(4, 3, 2, 1, 0);
    }

    /** "among several the smallest number" */
    private static void canFinishTheSmallestNumber() {
        finishes(1, 1, 1, 1, 1);
        finishes(2, 1, 1, 1, 2);
        finishes(1, 2, 1, 1, 1);
        finishes(1, 1, 1, 2, 3);
        finishes(2, 2, 1, 3, 5);
        finishes(2, 1, 2, 3, 3);
        finishes(1, 2, 2, 3, 3);
    }

    /** "frames with patterns": an empty frame is in no set. */
    private static void canFinishFramesWithPatterns() {
        finishes(0, 0, 0, 9, 0);
        finishes(0, 1, 0, 9, 2);
        finishes(1, 0, 1, 9, 5);
        finishes(0, 1, 1, 9, 6);
        finishes(1, 0, 0, 1, 1);
        finishes(0, 0, 1, 1, 4);
        finishes(0, 0, 2, 1, 0);
        QuiltGuild x = needing(1, 1, 1, 9);
        x.takeApart(1);
        eq("one is taken apart", x.canFinish(), 5);
        x.sew(0, 1);
        x.raffle(0, 1);
        eq("one is raffled", x.canFinish(), 4);
        QuiltGuild y = new QuiltGuild();
        startWith(y, 0, "a");
        eq("nobody has given cloth", y.canFinish(), 0);
    }

    /** Only what is missing counts: sewn patches need no cloth, and each colour must suffice. */
    private static void canFinishWithSewnPatches() {
        QuiltGuild x = needing(3, 2, 0, 2);
        eq("the second one", x.canFinish(), 2);
        x.sew(0, 1);
        eq("none, as the cloth is sewn", x.canFinish(), 0);
        x.give(0, 0, 1);
        eq("the rest of the first one", x.canFinish(), 1);
        x.sew(0, 9);
        eq("a finished one needs nothing", x.canFinish(), 1);
        x.give(0, 0, 2);
        eq("both", x.canFinish(), 3);
        QuiltGuild y = with(1);
        startWith(y, 0, "(ab)");
        startWith(y, 1, "(bc)");
        startWith(y, 2, "(cd)");
        y.give(0, 1, 9);
        eq("each one lacks a colour", y.canFinish(), 0);
        y.give(0, 2, 1);
        eq("b and c", y.canFinish(), 2);
        y.give(0, 3, 1);
        eq("c is enough for one of two", y.canFinish(), 2);
        y.give(0, 0, 1);
        eq("a, b and c", y.canFinish(), 3);
        y.give(0, 2, 1);
        eq("all of them", y.canFinish(), 7);
    }

    // ---- wouldGet

    /** "the pence that this member would get if the frame were raffled now at this price" */
    private static void wouldGetIfRaffled() {
        QuiltGuild x = framed(5, "3a");
        x.give(0, 0, 9);
        x.sew(0, 2);
        x.sew(0, 1);
        int[][] prices = {{0, 0, 0}, {1, 1, 0}, {2, 1, 1}, {3, 2, 1}, {4, 3, 1}, {5, 3, 2}, {9998, 6665, 3333},
            {9999, 6666, 3333}};
        for (int[] price : prices) {
            eq("0 of " + price[0], x.wouldGet(0, 0, price[0]), price[1]);
            eq("1 of " + price[0], x.wouldGet(0, 1, price[0]), price[2]);
            eq("who sewed none, of " + price[0], x.wouldGet(0, 4, price[0]), 0);
        }
        CHECKS.argument("a price of -1", () -> x.wouldGet(0, 0, -1));
        CHECKS.argument("a price of 10000", () -> x.wouldGet(0, 0, 10000));
        x.undo();
        x.sew(0, 1);
        eq("the same", x.wouldGet(0, 0, 3), 2);
    }

    /** "NONE if that is not possible" */
    private static void wouldGetNone() {
        QuiltGuild x = with(1);
        eq("an empty frame", x.wouldGet(0, 0, 5), NONE);
        startWith(x, 0, "3a");
        eq("none is sewn", x.wouldGet(0, 0, 0), NONE);
        x.give(0, 0, 9);
        x.sew(0, 2);
        eq("all but one are sewn", x.wouldGet(0, 0, 9999), NONE);
        x.sew(0, 1);
        eq("now it is possible", x.wouldGet(0, 0, 9999), 9999);
        eq("at the price 0, too", x.wouldGet(0, 0, 0), 0);
        eq("not for another frame", x.wouldGet(1, 0, 1), NONE);
        x.raffle(0, 1);
        eq("raffled", x.wouldGet(0, 0, 1), NONE);
        x.undo();
        eq("undone", x.wouldGet(0, 0, 1), 1);
        x.takeApart(0);
        eq("taken apart", x.wouldGet(0, 0, 1), NONE);
    }

    private static void wouldGetWhatTheRafflePays() {
        int[] prices = {0, 1, 2, 3, 4, 5, 6, 7, 8, 9, 10, 11, 12, 13, 99, 100, 1234, 9998, 9999};
        for (int price : prices) {
            QuiltGuild x = framed(5, "[7a7b]");
            x.give(0, 0, 9);
            x.give(0, 1, 9);
            int[] sewn = {3, 1, 5, 1, 4};
            for (int n : sewn) {
                x.sew(0, n);
            }
            int[] told = new int[5];
            int all = 0;
            for (int m = 0; m < 5; m++) {
                told[m] = x.wouldGet(0, m, price);
                all += told[m];
            }
            eq("all of " + price, all, price);
            x.raffle(0, price);
            for (int m = 0; m < 5; m++) {
                eq("paid to " + m + " of " + price, x.member(m, 1), told[m]);
            }
        }
    }

    // ---- becomes

    private static QuiltGuild both(String first, String second) {
        QuiltGuild x = new QuiltGuild();
        startWith(x, 0, first);
        startWith(x, 2, second);
        return x;
    }

    private static void becomes(String first, String second, int due) {
        eq(first + " becomes " + second, both(first, second).becomes(0, 2), due);
    }

    /** "mirrored if n is 4 or more, and then turned n % 4 times by a quarter clockwise" */
    private static void becomesEach() {
        String[] changed = {"", "^", "^^", "^^^", "<", "^<", "^^<", "^^^<"};
        int[] back = {0, 3, 2, 1, 4, 5, 6, 7};
        String[] patterns = {CHIRAL, "[(abc)(dea)(ffb)]", "[(ab)(cd)]", "[(aab)(aac)]"};
        for (String pattern : patterns) {
            for (int n = 0; n < 8; n++) {
                QuiltGuild x = both(pattern, changed[n] + pattern);
                eq(pattern + " becomes itself by " + changed[n], x.becomes(0, 2), n);
                eq(pattern + " comes back from " + changed[n], x.becomes(2, 0), back[n]);
            }
        }
        becomes("[(ab)(cd)]", "[(ca)(db)]", 1);
        becomes("[(ab)(cd)]", "[(dc)(ba)]", 2);
        becomes("[(ab)(cd)]", "[(bd)(ac)]", 3);
        becomes("[(ab)(cd)]", "[(ba)(dc)]", 4);
        becomes("[(ab)(cd)]", "[(db)(ca)]", 5);
        becomes("[(ab)(cd)]", "[(cd)(ab)]", 6);
        becomes("[(ab)(cd)]", "[(ac)(bd)]", 7);
    }

    /** "the smallest number n from 0 to 7" */
    private static void becomesTheSmallestNumber() {
        becomes("a", "a", 0);
        becomes("(aba)", "(aba)", 0);
        becomes("(ab)", "(ba)", 2);
        becomes("(ab)", "[ab]", 1);
        becomes("(ab)", "[ba]", 3);
        becomes("[ab]", "(ba)", 1);
        becomes("[ab]", "(ab)", 3);
        becomes("(aba)", "[aba]", 1);
        becomes("[(ab)(ba)]", "[(ba)(ab)]", 1);
        becomes("[(aa)(bb)]", "[(bb)(aa)]", 2);
        becomes("28^28a", "28^28a", 0);
        QuiltGuild x = both(CHIRAL, "a");
        eq("a frame and itself", x.becomes(0, 0), 0);
        eq("the last frame and itself", x.becomes(2, 2), 0);
    }

    /** "NONE if there is none, or one of them is empty" */
    private static void becomesNone() {
        becomes("a", "b", NONE);
        becomes("(ab)", "(ac)", NONE);
        becomes("(ab)", "(bb)", NONE);
        becomes("(ab)", "(aba)", NONE);
        becomes("(aa)", "a", NONE);
        becomes("4a", "[(aa)(aa)]", NONE);
        becomes(CHIRAL, "[(abc)(dee)]", NONE);
        becomes(CHIRAL, "[(bbc)(def)]", NONE);
        becomes(CHIRAL, "[(abc)(dfe)]", NONE);
        becomes("[6a6a]", "[4a4a4a]", NONE);
        QuiltGuild x = new QuiltGuild();
        eq("both are empty", x.becomes(0, 1), NONE);
        eq("an empty frame and itself", x.becomes(2, 2), NONE);
        startWith(x, 1, "a");
        eq("the first is empty", x.becomes(0, 1), NONE);
        eq("the second is empty", x.becomes(1, 2), NONE);
        startWith(x, 0, "a");
        eq("none is empty", x.becomes(0, 1), 0);
        x.takeApart(0);
        eq("one is taken apart", x.becomes(0, 1), NONE);
        QuiltGuild y = busy();
        eq("sewn or not, it is the pattern", y.becomes(0, 1), NONE);
        type(y, "[(ab)(ca)]");
        y.start(2);
        eq("sewn or not, it is the same", y.becomes(0, 2), 0);
    }

    /** "these and all following methods up to the save slots change nothing" */
    private static void allOfThemChangeNothing() {
        only("lacks", BUSY, x -> x.lacks(7, 0), 0);
        only("lacks", FULL, x -> x.lacks(7, 5), 0);
        only("canFinish", BUSY, QuiltGuild::canFinish, 3);
        only("canFinish", FULL, QuiltGuild::canFinish, 7);
        only("wouldGet", BUSY, x -> x.wouldGet(1, 1, 10), 7);
        only("wouldGet, not possible", BUSY, x -> x.wouldGet(0, 1, 10), NONE);
        only("becomes", FULL, x -> x.becomes(0, 1), 3);
        only("becomes, none", BUSY, x -> x.becomes(0, 1), NONE);
    }
}
