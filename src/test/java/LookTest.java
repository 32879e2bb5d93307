/** Promises 1 and 5 to 11 of ../shared/DOC.md ("what there is"), sentence by sentence. */
public final class LookTest extends Guilds {
    private static final String CHESSBOARD = "8(^8(ab)^8(ba))";

    public static void main(String[] args) {
        withoutMembers();
        membersAndTurn();
        framesWithPattern();
        raffledQuilts();
        clothInAll();
        sewnSoFar();
        penceAndCloth();
        clothOfAColour();
        sizeOfAFrame();
        sewnOnAFrame();
        coloursOfAFrame();
        seams();
        pieces();
        greatestPiece();
        nothingOnAnEmptyFrame();
        noSuchPatch();
        sewnOrNot();
        counted();
        symmetries();
        symmetriesOfAnEmptyOne();
        lookingChangesNothing();
        CHECKS.close("LookTest");
    }

    /** "Creates a guild without members." */
    private static void withoutMembers() {
        QuiltGuild x = new QuiltGuild();
        eq("the constant", QuiltGuild.NONE, -9);
        eq("no members", x.about(0), 0);
        eq("nobody on turn", x.about(1), NONE);
        for (int what = 2; what <= 8; what++) {
            eq("nothing else, " + what, x.about(what), 0);
        }
        for (int c = 0; c < 6; c++) {
            for (int what = 0; what <= 4; what++) {
                eq("no cloth of " + c + ", " + what, x.cloth(c, what), 0);
            }
        }
        eq("no text", x.clearText(), 0);
        eq("the error position of no text", x.errorPosition(), 0);
        CHECKS.bounds("no member 0", () -> x.member(0, 0));
        CHECKS.state("nothing remembered", x::undo);
        CHECKS.state("nothing saved in 0", () -> x.restore(0));
        CHECKS.state("nothing saved in 1", () -> x.restore(1));
        QuiltGuild busy = busy();
        QuiltGuild other = new QuiltGuild();
        eq("a second guild has nothing of the first", other.about(0) + other.about(3) + other.clearText(), 0);
        eq("and leaves it what it has", busy.about(0), 3);
    }

    // ---- about

    /** "0: the number of members; 1: the member on turn (NONE without members)" */
    private static void membersAndTurn() {
        QuiltGuild x = new QuiltGuild();
        for (int members = 1; members <= 5; members++) {
            x.addMember();
            eq("members", x.about(0), members);
            eq("on turn", x.about(1), 0);
        }
        startWith(x, 0, "a");
        for (int turn = 1; turn <= 5; turn++) {
            x.sew(0, 1);
            eq("on turn", x.about(1), turn % 5);
        }
        QuiltGuild y = with(1);
        y.undo();
        eq("no members again", y.about(0), 0);
        eq("nobody on turn again", y.about(1), NONE);
    }

    /** "2: the number of frames with a pattern" */
    private static void framesWithPattern() {
        QuiltGuild x = with(1);
        x.give(0, 0, 1);
        type(x, "a");
        for (int f = 2; f >= 0; f--) {
            x.start(f);
            eq("frames with a pattern", x.about(2), 3 - f);
        }
        x.takeApart(1);
        eq("one is taken apart", x.about(2), 2);
        x.sew(0, 1);
        eq("a finished one counts", x.about(2), 2);
        x.raffle(0, 0);
        eq("one is raffled", x.about(2), 1);
        x.takeApart(2);
        eq("none", x.about(2), 0);
    }

    /** "3: of quilts that were raffled; 4: of patches in them; 5: the pence of all raffles" */
    private static void raffledQuilts() {
        QuiltGuild x = with(1);
        x.give(0, 0, 99);
        int[] sizes = {1, 9, 16};
        int[] prices = {0, 9999, 1};
        String[] texts = {"a", "9a", "28a"};
        int patches = 0;
        int pence = 0;
        for (int i = 0; i < sizes.length; i++) {
            startWith(x, i, texts[i]);
            x.sew(i, 99);
            eq("a finished one is not raffled yet", x.about(3), i);
            x.raffle(i, prices[i]);
            patches += sizes[i];
            pence += prices[i];
            eq("quilts", x.about(3), i + 1);
            eq("patches in them", x.about(4), patches);
            eq("pence", x.about(5), pence);
        }
        startWith(x, 0, "a");
        x.sew(0, 1);
        x.takeApart(0);
        eq("one taken apart is not raffled", x.about(3), 3);
        eq("nor are its patches", x.about(4), 26);
    }

    /** "6: the pieces of cloth in the stock; 7: of scraps; 8: of cloth that was returned" */
    private static void clothInAll() {
        QuiltGuild x = with(2);
        for (int c = 0; c < 6; c++) {
            x.give(c % 2, c, c + 1);
        }
        eq("stock", x.about(6), 21);
        startWith(x, 0, "[(af)(fa)]");
        eq("sewn", x.sew(0, 9), 3);
        eq("stock without the sewn ones", x.about(6), 18);
        eq("sewn ones are no scraps", x.about(7), 0);
        x.takeApart(0);
        eq("scraps", x.about(7), 3);
        x.give(1, 5, 1);
        x.give(0, 5, 1);
        eq("returned", x.returnCloth(), 2 + 3 + 4 + 5 + 5);
        eq("returned in all", x.about(8), 19);
        eq("6 * 1 / 8 and 6 * 7 / 8 leave one over", x.about(7), 4);
        eq("stock is empty", x.about(6), 0);
        x.give(0, 1, 9);
        x.returnCloth();
        eq("returned so far", x.about(8), 19 + 7 + 1);
        eq("scraps so far", x.about(7), 4 + 1);
    }

    // ---- member

    /** "0: the patches that this member sewed so far (also in quilts that were raffled or taken apart)" */
    private static void sewnSoFar() {
        QuiltGuild x = with(2);
        x.give(0, 0, 99);
        startWith(x, 0, "3a");
        startWith(x, 1, "9a");
        startWith(x, 2, "9a");
        x.sew(0, 2);
        x.sew(0, 1);
        x.sew(1, 4);
        x.sew(2, 5);
        x.sew(2, 1);
        eq("by 0, on three frames", x.member(0, 0), 2 + 4 + 1);
        eq("by 1, on two frames", x.member(1, 0), 1 + 5);
        x.raffle(0, 3);
        eq("also in a raffled quilt, 0", x.member(0, 0), 7);
        eq("also in a raffled quilt, 1", x.member(1, 0), 6);
        x.takeApart(1);
        x.takeApart(2);
        eq("also in quilts taken apart, 0", x.member(0, 0), 7);
        eq("also in quilts taken apart, 1", x.member(1, 0), 6);
        startWith(x, 0, "9a");
        x.sew(0, 3);
        eq("and more", x.member(1, 0), 9);
    }

    /** "1: the pence from raffles; 2: the pieces of cloth given; 3: those returned" */
    private static void penceAndCloth() {
        QuiltGuild x = with(5);
        for (int what = 0; what <= 3; what++) {
            eq("a new member, " + what, x.member(4, what), 0);
        }
        x.give(4, 0, 99);
        x.give(4, 5, 1);
        x.give(3, 5, 1);
        eq("given", x.member(4, 2), 100);
        startWith(x, 0, "5a");
        for (int m = 0; m < 5; m++) {
            x.sew(0, 1);
        }
        x.raffle(0, 9999);
        eq("pence of the first one", x.member(0, 1), 2000);
        eq("pence of the last one", x.member(4, 1), 1999);
        startWith(x, 0, "a");
        x.sew(0, 1);
        x.raffle(0, 1);
        eq("pence of both raffles", x.member(0, 1), 2001);
        eq("no more for others", x.member(1, 1), 2000);
        x.returnCloth();
        eq("returned", x.member(4, 3), 93 + 1);
        eq("returned to another", x.member(3, 3), 1);
        eq("returned to who gave none", x.member(0, 3), 0);
        eq("given stays", x.member(4, 2), 100);
        x.give(4, 1, 2);
        x.returnCloth();
        eq("returned so far", x.member(4, 3), 96);
        eq("given so far", x.member(4, 2), 102);
    }

    // ---- cloth

    /** "0: .. in the stock; 1: .. given; 2: in quilts, on frames or raffled; 3: in scraps; 4: returned" */
    private static void clothOfAColour() {
        for (int c = 0; c <= 5; c += 5) {
            String letter = c == 0 ? "a" : "f";
            QuiltGuild x = with(2);
            x.give(0, c, 11);
            x.give(1, c, 9);
            startWith(x, 0, "3" + letter);
            startWith(x, 1, "4" + letter);
            x.sew(0, 3);
            x.sew(1, 2);
            clothIs(x, c, 15, 20, 5, 0, 0);
            x.raffle(0, 5);
            clothIs(x, c, 15, 20, 5, 0, 0);
            x.takeApart(1);
            clothIs(x, c, 15, 20, 3, 2, 0);
            x.returnCloth();
            clothIs(x, c, 0, 20, 3, 2 + 1, 8 + 6);
            x.give(1, c, 1);
            clothIs(x, c, 1, 21, 3, 3, 14);
            x.returnCloth();
            clothIs(x, c, 0, 21, 3, 4, 14);
            clothIs(x, 5 - c, 0, 0, 0, 0, 0);
        }
    }

    private static void clothIs(QuiltGuild x, int c, int... due) {
        for (int what = 0; what < due.length; what++) {
            eq("cloth " + c + ", " + what, x.cloth(c, what), due[what]);
        }
    }

    // ---- frame

    /** "0: the width of its pattern; 1: its height" */
    private static void sizeOfAFrame() {
        sized("a", 1, 1);
        sized("28a", 16, 1);
        sized("^28a", 1, 16);
        sized("28^28a", 16, 16);
        sized("[(abc)(def)]", 3, 2);
        sized("^[(abc)(def)]", 2, 3);
        sized("<[(abc)(def)]", 3, 2);
    }

    private static void sized(String text, int width, int height) {
        QuiltGuild x = new QuiltGuild();
        eq("patches of " + text, startWith(x, 2, text), width * height);
        eq("width of " + text, x.frame(2, 0), width);
        eq("height of " + text, x.frame(2, 1), height);
    }

    /** "2: the patches that are sewn" */
    private static void sewnOnAFrame() {
        QuiltGuild x = framed(1, "3a");
        eq("none", x.frame(0, 2), 0);
        x.sew(0, 1);
        eq("none without cloth", x.frame(0, 2), 0);
        x.give(0, 0, 9);
        for (int sewn = 1; sewn <= 3; sewn++) {
            x.sew(0, 1);
            eq("one by one", x.frame(0, 2), sewn);
        }
        x.sew(0, 99);
        eq("all", x.frame(0, 2), 3);
        x.undo();
        x.undo();
        eq("undone", x.frame(0, 2), 2);
        x.takeApart(0);
        eq("taken apart", x.frame(0, 2), 0);
        startWith(x, 0, "3a");
        eq("a new one", x.frame(0, 2), 0);
    }

    /** "3: how many colours it has" */
    private static void coloursOfAFrame() {
        framed("a", 3, 1);
        framed("f", 3, 1);
        framed("28^28c", 3, 1);
        framed("(ab)", 3, 2);
        framed("(abab)", 3, 2);
        framed("(abbb)", 3, 2);
        framed("(abcde)", 3, 5);
        framed("(abcdef)", 3, 6);
        framed("[(fed)(cba)(fed)]", 3, 6);
        QuiltGuild x = framed(0, "(aab)");
        x.recolour(0, 1, 5);
        eq("as many behind recolouring", x.frame(0, 3), 2);
    }

    /** "4: the seams (places where two patches side by side or below each other have unlike colours)" */
    private static void seams() {
        framed("a", 4, 0);
        framed("(aa)", 4, 0);
        framed("(ab)", 4, 1);
        framed("[ab]", 4, 1);
        framed("(aba)", 4, 2);
        framed("[aba]", 4, 2);
        framed("[(ab)(ab)]", 4, 2);
        framed("[(aa)(bb)]", 4, 2);
        framed("[(ab)(ba)]", 4, 4);
        framed("[(aab)(caa)]", 4, 4);
        framed("[(aab)(baa)]", 4, 4);
        framed("[(aab)(aac)]", 4, 3);
        framed("28^28a", 4, 0);
        framed("28(^28a)", 4, 0);
        framed("8(ab)", 4, 15);
        framed("^8(ab)", 4, 15);
        framed("[8(ab)8(ba)]", 4, 15 + 15 + 16);
        framed(CHESSBOARD, 4, 16 * 15 * 2);
    }

    /** "5: the pieces (patches of one colour that hang together by sides are one piece)" */
    private static void pieces() {
        framed("a", 5, 1);
        framed("(aa)", 5, 1);
        framed("[aa]", 5, 1);
        framed("(ab)", 5, 2);
        framed("(aba)", 5, 3);
        framed("[aba]", 5, 3);
        framed("[(ab)(ba)]", 5, 4);
        framed("[(ab)(bb)]", 5, 2);
        framed("[(aab)(bcc)]", 5, 4);
        framed("[(abc)(dea)]", 5, 6);
        framed("[(aba)(bbb)(aba)]", 5, 5);
        framed("[(aba)(aba)(aaa)]", 5, 2);
        framed("[(abb)(aba)(aaa)]", 5, 2);
        framed("[(bba)(baa)(abb)]", 5, 4);
        framed("[(abbb)(abab)(abab)(aaab)]", 5, 2);
        framed("[5a(a3ba)(abcba)(a3ba)(4aa)]", 5, 3);
        framed("28^28a", 5, 1);
        framed("8(ab)", 5, 16);
        framed("8(^28a^28b)", 5, 16);
        framed(CHESSBOARD, 5, 256);
    }

    /** "6: the patches of its greatest piece" */
    private static void greatestPiece() {
        framed("a", 6, 1);
        framed("(ab)", 6, 1);
        framed("(aab)", 6, 2);
        framed("(abb)", 6, 2);
        framed("(abbaaa)", 6, 3);
        framed("(aaabba)", 6, 3);
        framed("[(aab)(bcc)]", 6, 2);
        framed("[(ab)(bb)]", 6, 3);
        framed("[(aba)(bbb)(aba)]", 6, 5);
        framed("[(aba)(aba)(aaa)]", 6, 7);
        framed("[(abb)(aba)(aaa)]", 6, 6);
        framed("[(bba)(baa)(abb)]", 6, 3);
        framed("[(abbb)(abab)(abab)(aaab)]", 6, 8);
        framed("[5a(a3ba)(abcba)(a3ba)(4aa)]", 6, 16);
        framed("28^28a", 6, 256);
        framed("8(^28a^28b)", 6, 16);
        framed(CHESSBOARD, 6, 1);
    }

    private static void framed(String text, int what, int due) {
        QuiltGuild x = new QuiltGuild();
        startWith(x, 2, text);
        eq(text + ", " + what, x.frame(2, what), due);
        eq(text + ", " + what + ", asked again", x.frame(2, what), due);
    }

    /** "0 if it is empty." */
    private static void nothingOnAnEmptyFrame() {
        QuiltGuild x = with(1);
        x.give(0, 0, 1);
        empty("at first", x);
        startWith(x, 1, "a");
        x.undo();
        empty("an undone start", x);
        x.start(1);
        x.takeApart(1);
        empty("taken apart", x);
        x.start(1);
        x.sew(1, 1);
        x.raffle(1, 1);
        empty("raffled", x);
    }

    private static void empty(String when, QuiltGuild x) {
        for (int what = 0; what <= 6; what++) {
            eq(when + ", " + what, x.frame(1, what), 0);
        }
        for (int c = 0; c < 6; c++) {
            eq(when + ", all of " + c, x.count(1, c, false), 0);
            eq(when + ", sewn of " + c, x.count(1, c, true), 0);
        }
        eq(when + ", a patch", x.patch(1, 0, 0), NONE);
    }

    // ---- patch

    /** "x: column, from 0" "y: row, from 0" "NONE if there is no such patch" */
    private static void noSuchPatch() {
        QuiltGuild x = framed(0, "[(abc)(def)]");
        for (int y = 0; y < 2; y++) {
            for (int column = 0; column < 3; column++) {
                eq("a patch", x.patch(0, column, y), 3 * y + column);
            }
            eq("the first column that is none", x.patch(0, 3, y), NONE);
        }
        for (int column = 0; column < 3; column++) {
            eq("the first row that is none", x.patch(0, column, 2), NONE);
        }
        int[] far = {3, 4, 15, 16, 17, 256, MAX};
        for (int place : far) {
            eq("column " + place, x.patch(0, place, 1), NONE);
            eq("row " + place, x.patch(0, 1, place), NONE);
            eq("both " + place, x.patch(0, place, place), NONE);
            eq("an empty frame", x.patch(1, place, 0), NONE);
        }
        eq("an empty frame has none", x.patch(1, 0, 0), NONE);
        startWith(x, 2, "[(f7a8b)(8c7de)]");
        eq("the first patch of all", x.patch(2, 0, 0), 5);
        eq("the last of the first row", x.patch(2, 15, 0), 1);
        eq("behind it", x.patch(2, 16, 0), NONE);
        eq("the first of the last row", x.patch(2, 0, 1), 2);
        eq("the last patch of all", x.patch(2, 15, 1), 4);
        eq("behind the last patch of all", x.patch(2, 16, 1), NONE);
    }

    /** "Returns the colour in the pattern, whether it is sewn or not" */
    private static void sewnOrNot() {
        QuiltGuild x = framed(1, "(fa)");
        eq("not sewn", x.patch(0, 0, 0), 5);
        x.give(0, 5, 1);
        x.sew(0, 1);
        eq("sewn", x.patch(0, 0, 0), 5);
        eq("the next one is not", x.patch(0, 1, 0), 0);
    }

    // ---- count

    /** "sewn: whether those that are sewn are counted; otherwise all" "Returns how many there are in the pattern." */
    private static void counted() {
        QuiltGuild x = with(1);
        startWith(x, 2, "[(fab)(aaf)]");
        int[] all = {3, 1, 0, 0, 0, 2};
        int[][] sewn = {{0, 0}, {0, 1}, {1, 1}, {1, 1}, {2, 1}, {3, 1}, {3, 2}};
        int[] order = {5, 0, 1, 0, 0, 5};
        for (int i = 0; i <= 6; i++) {
            for (int c = 0; c < 6; c++) {
                eq("all of " + c, x.count(2, c, false), all[c]);
            }
            eq(i + " sewn, a", x.count(2, 0, true), sewn[i][0]);
            eq(i + " sewn, b", x.count(2, 1, true), i >= 3 ? 1 : 0);
            eq(i + " sewn, c", x.count(2, 2, true), 0);
            eq(i + " sewn, f", x.count(2, 5, true), sewn[i][1]);
            if (i < 6) {
                x.give(0, order[i], 1);
                x.sew(2, 9);
            }
        }
        startWith(x, 0, "28^28f");
        eq("256", x.count(0, 5, false), 256);
        eq("none of 256 is sewn", x.count(0, 5, true), 0);
    }

    // ---- same

    /** "0: mirrored; 1: turned by a half; 2: turned by a quarter clockwise" */
    private static void symmetries() {
        sameAs("a", 1, 1, 1);
        sameAs("(aa)", 1, 1, 0);
        sameAs("[aa]", 1, 1, 0);
        sameAs("(ab)", 0, 0, 0);
        sameAs("[ab]", 1, 0, 0);
        sameAs("(aba)", 1, 1, 0);
        sameAs("[aba]", 1, 1, 0);
        sameAs("(abc)", 0, 0, 0);
        sameAs("[(abc)(cba)]", 0, 1, 0);
        sameAs("[(aba)(cdc)]", 1, 0, 0);
        sameAs("[(ab)(ab)]", 0, 0, 0);
        sameAs("[(aa)(bb)]", 1, 0, 0);
        sameAs("[(ab)(ba)]", 0, 1, 0);
        sameAs("[(aa)(aa)]", 1, 1, 1);
        sameAs("[(aba)(bcb)(aba)]", 1, 1, 1);
        sameAs("[(abca)(cddb)(bddc)(acba)]", 0, 1, 1);
        sameAs("[(aba)(bbb)(abb)]", 0, 0, 0);
        sameAs("28^28a", 1, 1, 1);
        sameAs("(28^28a)", 1, 1, 1);
        sameAs("[^^28a28a]", 1, 1, 0);
        sameAs(CHESSBOARD, 0, 1, 0);
        sameAs("[(7aba7a)28a]", 0, 0, 0);
    }

    private static void sameAs(String text, int mirrored, int half, int quarter) {
        int[] due = {mirrored, half, quarter};
        QuiltGuild x = framed(0, text);
        for (int how = 0; how <= 2; how++) {
            eq(text + " is the same, " + how, x.same(0, how) ? 1 : 0, due[how]);
        }
    }

    /** "(an empty one is)" */
    private static void symmetriesOfAnEmptyOne() {
        QuiltGuild x = framed(0, "(abc)");
        for (int how = 0; how <= 2; how++) {
            CHECKS.holds("a pattern is not, " + how, !x.same(0, how));
            CHECKS.holds("an empty frame is, " + how, x.same(1, how) && x.same(2, how));
        }
        x.takeApart(0);
        for (int how = 0; how <= 2; how++) {
            CHECKS.holds("an emptied one is, " + how, x.same(0, how));
        }
    }

    /** What is told of there being is no action, and changes nothing. */
    private static void lookingChangesNothing() {
        only("about", BUSY, x -> x.about(8), 0);
        only("member", BUSY, x -> x.member(2, 0), 3);
        only("cloth", BUSY, x -> x.cloth(0, 3), 2);
        only("frame, sewn", BUSY, x -> x.frame(0, 2), 3);
        only("frame, pieces", BUSY, x -> x.frame(0, 5), 4);
        only("frame, greatest", BUSY, x -> x.frame(1, 6), 1);
        only("patch", BUSY, x -> x.patch(0, 1, 1), 0);
        only("count", BUSY, x -> x.count(0, 0, true), 1);
        only("same", BUSY, x -> x.same(0, 2) ? 1 : 0, 0);
        only("same, mirrored", FULL, x -> x.same(1, 0) ? 1 : 0, 1);
    }
}
