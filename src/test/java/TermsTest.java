/** The section "Terms" of ../shared/DOC.md, sentence by sentence: the parts on patterns, frames, cloth and members. */
public final class TermsTest extends Guilds {
    public static void main(String[] args) {
        colours();
        blocksAreAtMost16Wide();
        blocksAreAtMost16High();
        parentheses();
        brackets();
        copies();
        mirrored();
        turned();
        numbersOfPatches();
        frames();
        members();
        stock();
        turnGoesOn();
        turnIsPassedOnByNobodyElse();
        priceRoundedDown();
        penceLeftOver();
        returned();
        returnedOfAllEverGiven();
        account();
        CHECKS.close("TermsTest");
    }

    // ---- patterns

    /** "There are 6 colours, a to f, numbered from 0." "The letter of a colour is a block of one patch." */
    private static void colours() {
        for (int c = 0; c < 6; c++) {
            QuiltGuild x = with(1);
            eq("one patch of the colour " + c, startWith(x, 0, "" + (char) ('a' + c)), 1);
            eq("its colour", x.patch(0, 0, 0), c);
            eq("its width", x.frame(0, 0), 1);
            eq("its height", x.frame(0, 1), 1);
            x.give(0, c, 1);
            eq("its cloth", x.sew(0, 1), 1);
        }
        error("`", 0);
        error("g", 0);
        error("A", 0);
        error("F", 0);
    }

    /** "A block has a width and a height in patches, each at most 16." */
    private static void blocksAreAtMost16Wide() {
        String[] of16 = {"(aaaaaaaaaaaaaaaa)", "(28a)", "28a", "82a", "44a", "2222a", "(8a8a)", "(9a7a)", "<28a",
            "^^28a", "^[aaaaaaaaaaaaaaaa]", "^[^8a^8a]", "8(ab)", "4(abcd)", "2(abcdefab)"};
        for (String text : of16) {
            QuiltGuild x = framed(0, text);
            eq("the width of " + text, x.frame(0, 0), 16);
            eq("the height of " + text, x.frame(0, 1), 1);
        }
        error("(aaaaaaaaaaaaaaaaa)", 17);
        error("(28aa)", 4);
        error("29a", 0);
        error("(8a9a)", 3);
        error("(9a8a)", 3);
        error("5(abcd)", 0);
        error("6(abc)", 0);
        error("9(ab)", 0);
    }

    private static void blocksAreAtMost16High() {
        String[] of16 = {"[aaaaaaaaaaaaaaaa]", "^28a", "[^8a^8a]", "[^9a^7a]", "^^^28a", "<^28a", "[^28a]"};
        for (String text : of16) {
            QuiltGuild x = framed(0, text);
            eq("the width of " + text, x.frame(0, 0), 1);
            eq("the height of " + text, x.frame(0, 1), 16);
        }
        error("[aaaaaaaaaaaaaaaaa]", 17);
        error("[^28aa]", 5);
        error("[a^28a]", 2);
        error("[^8a^9a]", 4);
        error("[^9a^8a]", 4);
        QuiltGuild x = new QuiltGuild();
        eq("16 by 16", startWith(x, 0, "28^28a"), 256);
        eq("its width", x.frame(0, 0), 16);
        eq("its height", x.frame(0, 1), 16);
        error("([^28^28a]^28a)", 10);
        error("(28^28a^28a)", 7);
        error("[28^28a28a]", 7);
        error("2[28^28a]", 0);
    }

    /** "Blocks in parentheses, one or more, are a block: .. side by side, from left to right, .. the same height." */
    private static void parentheses() {
        error("()", 1);
        layout("(a)", "a");
        layout("(ab)", "ab");
        layout("(fedcba)", "fedcba");
        layout("((a)(bc)((d)))", "abcd");
        layout("([ab][cd])", "ac/bd");
        layout("([ab]2[cd]^(ef))", "acce/bddf");
        error("(a[bc])", 2);
        error("([ab]c)", 5);
        error("([ab][cde])", 5);
        error("([abc][de])", 6);
        error("([ab][cd]e)", 9);
        error("(ab[cd])", 3);
    }

    /** "Blocks in square brackets, one or more, are a block: they lie below each other, .. the same width." */
    private static void brackets() {
        error("[]", 1);
        layout("[a]", "a");
        layout("[ab]", "a/b");
        layout("[fedcba]", "f/e/d/c/b/a");
        layout("[[a][bc][[d]]]", "a/b/c/d");
        layout("[(ab)(cd)]", "ab/cd");
        layout("[(ab)2^(cd)(ef)]", "ab/cc/dd/ef");
        error("[a(bc)]", 2);
        error("[(ab)c]", 5);
        error("[(ab)(cde)]", 5);
        error("[(abc)(de)]", 6);
        error("[(ab)(cd)e]", 9);
        error("[ab(cd)]", 3);
    }

    /** "A digit n from 2 to 9 and a block are a block: n copies of it side by side." */
    private static void copies() {
        error("0a", 0);
        error("1a", 0);
        for (int n = 2; n <= 9; n++) {
            QuiltGuild x = framed(0, n + "b");
            eq(n + " copies", x.frame(0, 0), n);
            eq(n + " copies are patches", x.count(0, 1, false), n);
        }
        layout("2(ab)", "abab");
        layout("3(abc)", "abcabcabc");
        layout("2[ab]", "aa/bb");
        layout("23a", "aaaaaa");
        layout("2(a2b)", "abbabb");
        layout("2[(ab)(cd)]", "abab/cdcd");
    }

    /** "The sign < and a block are a block: it is mirrored (left and right are exchanged)." */
    private static void mirrored() {
        layout("<a", "a");
        layout("<(ab)", "ba");
        layout("<(abc)", "cba");
        layout("<[ab]", "a/b");
        layout("<<(ab)", "ab");
        layout("<[(abc)(def)]", "cba/fed");
        layout("<2(ab)", "baba");
        layout("(a<(bc)d)", "acbd");
    }

    /** "The sign ^ and a block are a block: .. (its left column becomes its top row, from the bottom up)." */
    private static void turned() {
        layout("^a", "a");
        layout("^[ab]", "ba");
        layout("^[abc]", "cba");
        layout("^(ab)", "a/b");
        layout("^(abc)", "a/b/c");
        layout("^[(ab)(cd)]", "ca/db");
        layout("^[(abc)(def)]", "da/eb/fc");
        layout("^^[(abc)(def)]", "fed/cba");
        layout("^^^[(abc)(def)]", "cf/be/ad");
        layout("^^^^[(abc)(def)]", "abc/def");
        layout("<^[(ab)(cd)]", "ac/bd");
        layout("^<[(ab)(cd)]", "db/ca");
    }

    /** "The patches of a pattern are numbered from 0, row by row from the top, each row from the left." */
    private static void numbersOfPatches() {
        QuiltGuild x = framed(1, "[(abc)(def)]");
        for (int c = 0; c < 6; c++) {
            x.give(0, c, 1);
        }
        for (int sewn = 1; sewn <= 6; sewn++) {
            x.sew(0, 1);
            for (int c = 0; c < 6; c++) {
                eq("behind " + sewn + ", of " + c, x.count(0, c, true), c < sewn ? 1 : 0);
            }
        }
        QuiltGuild y = framed(1, "[(ab)(ba)(cb)]");
        int[] order = {0, 1, 1, 0, 2, 1};
        for (int c : order) {
            eq("no cloth for the next one", y.sew(0, 9), 0);
            y.give(0, c, 1);
            eq("the next one is of " + c, y.sew(0, 9), 1);
        }
    }

    // ---- frames, cloth and members

    /** "There are 3 frames, numbered from 0, at first empty." "A frame has a pattern or none, .." */
    private static void frames() {
        QuiltGuild x = with(1);
        for (int f = 0; f < 3; f++) {
            for (int what = 0; what <= 6; what++) {
                eq("at first empty, frame " + f + ", " + what, x.frame(f, what), 0);
            }
        }
        eq("the frame 0", startWith(x, 0, "a"), 1);
        eq("the frame 1", startWith(x, 1, "(ab)"), 2);
        eq("the frame 2", startWith(x, 2, "(abc)"), 3);
        shows("each has its own", x, 0, "a");
        shows("each has its own", x, 1, "ab");
        shows("each has its own", x, 2, "abc");
        x.give(0, 0, 9);
        x.sew(2, 1);
        eq("sewn on the frame 0", x.frame(0, 2), 0);
        eq("sewn on the frame 1", x.frame(1, 2), 0);
        eq("sewn on the frame 2", x.frame(2, 2), 1);
    }

    /** "There are at most 5 members, numbered from 0 in the order in which they were added." */
    private static void members() {
        QuiltGuild x = new QuiltGuild();
        for (int m = 0; m < 5; m++) {
            eq("added", x.addMember(), m);
            x.give(m, 0, m + 1);
        }
        for (int m = 0; m < 5; m++) {
            eq("given by " + m, x.member(m, 2), m + 1);
        }
        CHECKS.state("a sixth one", x::addMember);
        eq("still five", x.about(0), 5);
    }

    /** "The guild has a stock of cloth by colours, at first none; each patch that is sewn takes one piece .." */
    private static void stock() {
        QuiltGuild x = with(1);
        for (int c = 0; c < 6; c++) {
            eq("at first none of " + c, x.cloth(c, 0), 0);
        }
        startWith(x, 0, "(aab)");
        eq("none is sewn without cloth", x.sew(0, 9), 0);
        for (int c = 0; c < 6; c++) {
            x.give(0, c, 5);
        }
        x.sew(0, 2);
        eq("two of a are taken", x.cloth(0, 0), 3);
        eq("none of b is taken", x.cloth(1, 0), 5);
        x.sew(0, 2);
        eq("no more of a", x.cloth(0, 0), 3);
        eq("one of b is taken", x.cloth(1, 0), 4);
        for (int c = 2; c < 6; c++) {
            eq("none of " + c, x.cloth(c, 0), 5);
        }
    }

    /** "One member is on turn (at first the member 0); whenever somebody has sewn (0 patches, too), .. the next .." */
    private static void turnGoesOn() {
        for (int members = 1; members <= 5; members++) {
            QuiltGuild x = with(members);
            startWith(x, 0, "9a");
            eq("at first the member 0 of " + members, x.about(1), 0);
            for (int i = 1; i <= 2 * members; i++) {
                if (i % 2 == 0) {
                    x.give(0, 0, 1);
                }
                eq("sewn", x.sew(0, 9), i % 2 == 0 ? 1 : 0);
                eq("behind the last one comes the member 0, of " + members, x.about(1), i % members);
            }
        }
        QuiltGuild x = with(1);
        startWith(x, 0, "a");
        x.sew(0, 1);
        x.addMember();
        eq("one alone stays on turn", x.about(1), 0);
        x.sew(0, 1);
        eq("now there is a next one", x.about(1), 1);
        x.addMember();
        eq("an added one does not change the turn", x.about(1), 1);
        x.sew(0, 1);
        eq("it comes behind the last one", x.about(1), 2);
        x.sew(0, 1);
        eq("and then the member 0", x.about(1), 0);
    }

    private static void turnIsPassedOnByNobodyElse() {
        QuiltGuild x = with(3);
        x.give(1, 0, 9);
        startWith(x, 0, "a");
        startWith(x, 1, "(bb)");
        x.recolour(1, 1, 0);
        eq("neither by gifts, nor by patterns", x.about(1), 0);
        x.sew(0, 1);
        eq("by sewing", x.about(1), 1);
        x.sew(0, 1);
        eq("also on a finished one", x.about(1), 2);
        x.raffle(0, 5);
        x.takeApart(1);
        x.returnCloth();
        eq("not by raffles, scraps or cloth that is returned", x.about(1), 2);
        x.lacks(7, 0);
        x.runScript(4, 2119100110011001L);
        x.simulate(3, 99);
        eq("not by what would be", x.about(1), 2);
        CHECKS.state("an empty frame", () -> x.sew(1, 1));
        eq("not by a refused call", x.about(1), 2);
        x.undo();
        x.undo();
        x.undo();
        x.undo();
        eq("undo takes a turn back", x.about(1), 1);
    }

    /** "each member gets (the price * the patches that this member sewed / all its patches), rounded down; .." */
    private static void priceRoundedDown() {
        split("a", new int[] {1}, 0, new int[] {0});
        split("a", new int[] {1}, 9999, new int[] {9999});
        split("(aa)", new int[] {1, 1}, 8, new int[] {4, 4});
        split("3a", new int[] {1, 2}, 9999, new int[] {3333, 6666});
        split("4a", new int[] {1, 3}, 4, new int[] {1, 3});
        split("5a", new int[] {1, 1, 1, 1, 1}, 9995, new int[] {1999, 1999, 1999, 1999, 1999});
        split("9a", new int[] {4, 5}, 9, new int[] {4, 5});
        split("9a", new int[] {4, 5, 0}, 0, new int[] {0, 0, 0});
    }

    /** ".. left over go one by one to the members with the greatest remainders .., among several to the lowest one." */
    private static void penceLeftOver() {
        split("(aa)", new int[] {1, 1}, 9, new int[] {5, 4});
        split("(aa)", new int[] {1, 1}, 1, new int[] {1, 0});
        split("3a", new int[] {1, 2}, 1, new int[] {0, 1});
        split("3a", new int[] {2, 1}, 1, new int[] {1, 0});
        split("3a", new int[] {1, 1, 1}, 2, new int[] {1, 1, 0});
        split("7a", new int[] {1, 2, 4}, 9999, new int[] {1428, 2857, 5714});
        split("5a", new int[] {1, 1, 1, 1, 1}, 1, new int[] {1, 0, 0, 0, 0});
        split("5a", new int[] {1, 1, 1, 1, 1}, 9, new int[] {2, 2, 2, 2, 1});
        split("6a", new int[] {1, 1, 1, 1, 2}, 3, new int[] {1, 1, 0, 0, 1});
        split("6a", new int[] {2, 1, 1, 1, 1}, 3, new int[] {1, 1, 1, 0, 0});
        split("6a", new int[] {2, 1, 1, 1, 1}, 4, new int[] {1, 1, 1, 1, 0});
        split("6a", new int[] {0, 3, 3}, 1, new int[] {0, 1, 0});
        split("6a", new int[] {0, 0, 3, 0, 3}, 5, new int[] {0, 0, 3, 0, 2});
        split("28^28a", new int[] {99, 99, 58}, 9999, new int[] {3867, 3867, 2265});
    }

    /** The members sew as many patches as told in turn; who sews none does so on another frame. */
    private static void split(String text, int[] sewn, int price, int[] due) {
        QuiltGuild x = framed(sewn.length, text);
        for (int i = 0; i < 3; i++) {
            x.give(0, 0, 99);
        }
        startWith(x, 1, "b");
        for (int n : sewn) {
            x.sew(n == 0 ? 1 : 0, Math.max(1, n));
        }
        for (int m = 0; m < due.length; m++) {
            eq(text + ": would get " + m + " of " + price, x.wouldGet(0, m, price), due[m]);
        }
        x.raffle(0, price);
        int all = 0;
        for (int m = 0; m < due.length; m++) {
            eq(text + ": gets " + m + " of " + price, x.member(m, 1), due[m]);
            all += due[m];
        }
        eq(text + ": all of it", all, price);
        eq("the pence of all raffles", x.about(5), price);
    }

    /** ".. each member gets (the stock * what this member gave .. / what all gave ..), rounded down; .. scraps." */
    private static void returned() {
        QuiltGuild x = with(3);
        eq("no cloth was given at all", x.returnCloth(), 0);
        x.give(0, 0, 1);
        x.give(1, 0, 1);
        x.give(2, 0, 1);
        startWith(x, 0, "a");
        x.sew(0, 1);
        eq("2 * 1 / 3 is 0 for each", x.returnCloth(), 0);
        eq("all of it becomes scraps", x.cloth(0, 3), 2);
        eq("the stock is empty", x.cloth(0, 0), 0);
        eq("nothing was returned", x.cloth(0, 4), 0);
        x.give(0, 1, 4);
        x.give(2, 1, 2);
        x.give(1, 5, 99);
        eq("each colour by itself", x.returnCloth(), 4 + 2 + 99);
        eq("to 0", x.member(0, 3), 4);
        eq("to 1", x.member(1, 3), 99);
        eq("to 2", x.member(2, 3), 2);
        eq("nothing is left over of b", x.cloth(1, 3), 0);
        eq("returned of f", x.cloth(5, 4), 99);
        eq("an empty stock", x.returnCloth(), 0);
        eq("no more scraps", x.about(7), 2);
    }

    private static void returnedOfAllEverGiven() {
        QuiltGuild x = with(2);
        x.give(0, 3, 6);
        eq("all to the only one", x.returnCloth(), 6);
        x.give(1, 3, 3);
        eq("3 * 6 / 9 and 3 * 3 / 9", x.returnCloth(), 2 + 1);
        eq("to 0, who was given back all before", x.member(0, 3), 6 + 2);
        eq("to 1", x.member(1, 3), 1);
        x.give(1, 3, 1);
        eq("1 * 6 / 10 and 1 * 4 / 10", x.returnCloth(), 0);
        eq("scraps", x.cloth(3, 3), 1);
        startWith(x, 0, "2d");
        x.give(0, 3, 4);
        x.sew(0, 2);
        eq("2 * 10 / 14 and 2 * 4 / 14", x.returnCloth(), 1);
        eq("to 0 in all", x.member(0, 3), 9);
        eq("to 1 in all", x.member(1, 3), 1);
        eq("scraps in all", x.cloth(3, 3), 2);
    }

    /** "All cloth that was given is in the stock, in patches of quilts on frames, in quilts that were raffled, .." */
    private static void account() {
        QuiltGuild x = busy();
        balanced("in the midst", x);
        int[] all = new int[5];
        for (int c = 0; c < 6; c++) {
            for (int what = 0; what < 5; what++) {
                all[what] += x.cloth(c, what);
            }
        }
        eq("in the stock", x.about(6), all[0]);
        eq("given by all", x.member(0, 2) + x.member(1, 2) + x.member(2, 2), all[1]);
        eq("scraps", x.about(7), all[3]);
        eq("a quilt is raffled", x.raffle(1, 3), 3);
        balanced("behind a raffle", x);
        x.takeApart(0);
        balanced("behind a quilt taken apart", x);
        x.returnCloth();
        balanced("behind cloth returned", x);
        eq("returned to all", x.member(0, 3) + x.member(1, 3) + x.member(2, 3), x.about(8));
        x.undo();
        x.undo();
        balanced("behind undo", x);
    }

    private static void balanced(String when, QuiltGuild x) {
        for (int c = 0; c < 6; c++) {
            eq(when + ", all of the colour " + c, x.cloth(c, 1),
                x.cloth(c, 0) + x.cloth(c, 2) + x.cloth(c, 3) + x.cloth(c, 4));
        }
    }
}
