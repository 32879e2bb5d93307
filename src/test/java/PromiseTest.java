/** For each promise of ../shared/DOC.md: ordinary inputs, the edges that it names, and wrong inputs in their order. */
public final class PromiseTest extends Guilds {
    public static void main(String[] args) {
        promise1NewObject();
        promise2Append();
        promise3ClearText();
        promise4Letters();
        promise4Groups();
        promise4Sizes();
        promise4Deep();
        promise5About();
        promise6Member();
        promise7Cloth();
        promise8Frame();
        promise8Pieces();
        promise9Patch();
        promise9Layouts();
        promise10Count();
        promise11Same();
        promise12AddMember();
        promise13Give();
        promise14Start();
        promise15Recolour();
        promise16Sew();
        promise16Turns();
        promise17TakeApart();
        promise18Raffle();
        promise18Split();
        promise19ReturnCloth();
        promise19GreatNumbers();
        promise20Undo();
        promise20Raffles();
        promise20WhatIsRemembered();
        promise21Lacks();
        promise22CanFinish();
        promise23WouldGet();
        promise24Becomes();
        promise25Arguments();
        promise25Commands();
        promise25WrongCommands();
        promise25Copy();
        promise26Simulate();
        promise26Evenings();
        promise27And28SaveAndRestore();
        CHECKS.close("PromiseTest");
    }

    // ---- text

    private static void promise1NewObject() {
        QuiltGuild x = new QuiltGuild();
        eq("NONE", QuiltGuild.NONE, NONE);
        eq("members", x.about(0), 0);
        eq("turn", x.about(1), NONE);
        for (int what = 2; what <= 8; what++) {
            eq("about " + what, x.about(what), 0);
        }
        eq("the text is empty", x.clearText(), 0);
        CHECKS.bounds("no member", () -> x.member(0, 0));
        CHECKS.state("nothing to undo", x::undo);
        CHECKS.state("nothing saved in 0", () -> x.restore(0));
        CHECKS.state("nothing saved in 1", () -> x.restore(1));
        for (int f = 0; f < 3; f++) {
            eq("frame " + f, x.frame(f, 0), 0);
        }
    }

    private static void promise2Append() {
        QuiltGuild x = new QuiltGuild();
        eq("append 0", x.append(0), 1);
        eq("append 255", x.append(255), 2);
        CHECKS.argument("append -1", () -> x.append(-1));
        CHECKS.argument("append 256", () -> x.append(256));
        CHECKS.argument("append min", () -> x.append(MIN));
        CHECKS.argument("append max", () -> x.append(MAX));
        for (int i = 3; i <= 60; i++) {
            eq("append", x.append('a'), i);
        }
        CHECKS.state("append 61", () -> x.append('a'));
        CHECKS.argument("append wrong and full", () -> x.append(256));
        eq("length stays", x.clearText(), 60);
    }

    private static void promise3ClearText() {
        QuiltGuild x = new QuiltGuild();
        eq("clear empty", x.clearText(), 0);
        x.append('(');
        x.append('a');
        eq("clear", x.clearText(), 2);
        eq("clear again", x.clearText(), 0);
        eq("error of the cleared", x.errorPosition(), 0);
        x.append('a');
        eq("error of the new", x.errorPosition(), NONE);
    }

    private static void promise4Letters() {
        error("", 0);
        for (char c = 0; c <= 255; c++) {
            boolean isColour = c >= 'a' && c <= 'f';
            boolean begins = c >= '2' && c <= '9' || "([<^".indexOf(c) >= 0;
            error("" + c, isColour ? NONE : begins ? 1 : 0);
            error("a" + c, 1);
            error("(" + c, isColour || begins ? 2 : 1);
        }
        error("(a)", NONE);
        error("[a]", NONE);
        error("2a", NONE);
        error("9f", NONE);
        error("<a", NONE);
        error("^a", NONE);
        error("1a", 0);
        error("0a", 0);
        error("g", 0);
        error("A", 0);
        error(" a", 0);
        error("a ", 1);
        error("(a b)", 2);
        error("ab", 1);
    }

    private static void promise4Groups() {
        error("()", 1);
        error("[]", 1);
        error("(a]", 2);
        error("[a)", 2);
        error("(a", 2);
        error("(a)b", 3);
        error("(a))", 3);
        error("(2)", 2);
        error("(a<)", 3);
        error("((a)", 4);
        error("2", 1);
        error("<^", 2);
        error("(a[bc])", 2);
        error("(a[bc", 5);
        error("([bc]a)", 5);
        error("[(ab)c]", 5);
        error("[c(ab)]", 2);
        error("[(ab)<(cd)^[ef]]", NONE);
        error("[(ab)^(cd)]", 5);
        error("([ab]^(cd)<[ef])", NONE);
        error("(a[b]c)", NONE);
        error("[a(b)c]", NONE);
        error("(a<^[bc])", NONE);
        error("(a2<[bc])", 2);
        error("(a(b[c[de]]))", 4);
        error("(a[bc]x", 2);
        error("(ax[bc])", 2);
    }

    private static void promise4Sizes() {
        error("(9a7a)", NONE);
        error("(9a8a)", 3);
        error("(9a7ab)", 5);
        error("(aaaaaaaaaaaaaaaa)", NONE);
        error("(aaaaaaaaaaaaaaaaa)", 17);
        error("(aaaaaaaaaaaaaaaaax", 17);
        error("[aaaaaaaaaaaaaaaa]", NONE);
        error("[aaaaaaaaaaaaaaaaa]", 17);
        error("[^9a^8a]", 4);
        error("[^9a^7a]", NONE);
        error("28a", NONE);
        error("29a", 0);
        error("2222a", NONE);
        error("22222a", 0);
        error("2^9a", NONE);
        error("9(ab)", 0);
        error("8(ab)", NONE);
        error("(99a", 1);
        error("(99ax", 1);
        error("3<3(ab)", 0);
        error("^29a", 1);
        error("(a29^^a)", 2);
        error("^9^9a", NONE);
        error("28^28a", NONE);
        error("[28a28b]", NONE);
        error("([28^28a]a)", 9);
        error("[28^28a<^28b]", 7);
    }

    private static void promise4Deep() {
        error("^".repeat(59) + "a", NONE);
        error("<".repeat(60), 60);
        error("(".repeat(60), 60);
        error("(".repeat(29) + "ab" + ")".repeat(29), NONE);
        error("[".repeat(29) + "ab" + "]".repeat(29), NONE);
        error("([".repeat(15) + "(".repeat(29), 59);
        error("2".repeat(59) + "a", 54);
        error("(".repeat(30) + "a" + ")".repeat(29), 60);
        QuiltGuild x = new QuiltGuild();
        eq("57 turns start", startWith(x, 0, "^".repeat(57) + "2f"), 2);
        eq("they stand", x.frame(0, 1), 2);
        eq("59 turns start", startWith(x, 1, "^".repeat(59) + "f"), 1);
        eq("the last letter is found", x.patch(1, 0, 0), 5);
    }

    // ---- what there is

    private static void promise5About() {
        QuiltGuild x = with(2);
        x.give(0, 0, 9);
        x.give(1, 1, 4);
        startWith(x, 0, "4a");
        startWith(x, 2, "(ab)");
        eq("members", x.about(0), 2);
        eq("turn", x.about(1), 0);
        eq("frames", x.about(2), 2);
        eq("stock", x.about(6), 13);
        x.sew(0, 3);
        eq("turn after sewing", x.about(1), 1);
        x.sew(0, 3);
        eq("stock after sewing", x.about(6), 9);
        x.raffle(0, 50);
        eq("frames after the raffle", x.about(2), 1);
        eq("raffled", x.about(3), 1);
        eq("patches raffled", x.about(4), 4);
        eq("pence", x.about(5), 50);
        x.sew(2, 1);
        x.takeApart(2);
        eq("scraps", x.about(7), 1);
        eq("not returned yet", x.about(8), 0);
        x.returnCloth();
        eq("returned", x.about(8), 8);
        eq("stock after returning", x.about(6), 0);
        startWith(x, 2, "2c");
        x.give(0, 2, 2);
        x.sew(2, 2);
        x.raffle(2, 9999);
        eq("raffled, 2", x.about(3), 2);
        eq("patches raffled, 2", x.about(4), 6);
        eq("pence, 2", x.about(5), 10049);
        CHECKS.argument("about -1", () -> x.about(-1));
        CHECKS.argument("about 9", () -> x.about(9));
        CHECKS.argument("about min", () -> x.about(MIN));
        CHECKS.argument("about max", () -> x.about(MAX));
    }

    private static void promise6Member() {
        QuiltGuild x = with(2);
        x.give(0, 0, 10);
        x.give(1, 0, 5);
        x.give(1, 3, 7);
        startWith(x, 0, "4a");
        x.sew(0, 3);
        x.sew(0, 1);
        eq("sewn by 0", x.member(0, 0), 3);
        eq("sewn by 1", x.member(1, 0), 1);
        x.raffle(0, 8);
        eq("sewn by 0, raffled", x.member(0, 0), 3);
        eq("pence of 0", x.member(0, 1), 6);
        eq("pence of 1", x.member(1, 1), 2);
        startWith(x, 0, "4a");
        x.sew(0, 2);
        x.takeApart(0);
        eq("sewn by 0, taken apart", x.member(0, 0), 5);
        eq("given by 0", x.member(0, 2), 10);
        eq("given by 1", x.member(1, 2), 12);
        x.returnCloth();
        eq("returned to 0", x.member(0, 3), 6);
        eq("returned to 1", x.member(1, 3), 3 + 7);
        eq("given by 1 stays", x.member(1, 2), 12);
        CHECKS.bounds("member 2", () -> x.member(2, 0));
        CHECKS.bounds("member -1", () -> x.member(-1, 0));
        CHECKS.bounds("member min", () -> x.member(MIN, 4));
        CHECKS.bounds("member 5", () -> x.member(5, -1));
        CHECKS.argument("what 4", () -> x.member(0, 4));
        CHECKS.argument("what -1", () -> x.member(1, -1));
    }

    private static void promise7Cloth() {
        QuiltGuild x = with(2);
        x.give(0, 1, 10);
        x.give(1, 1, 10);
        x.give(1, 5, 1);
        startWith(x, 0, "3b");
        startWith(x, 1, "5b");
        x.sew(0, 9);
        x.sew(1, 2);
        eq("in quilts", x.cloth(1, 2), 5);
        eq("in stock", x.cloth(1, 0), 15);
        x.raffle(0, 0);
        eq("in quilts, one raffled", x.cloth(1, 2), 5);
        x.takeApart(1);
        eq("in quilts, one taken apart", x.cloth(1, 2), 3);
        eq("in scraps", x.cloth(1, 3), 2);
        x.returnCloth();
        eq("stock", x.cloth(1, 0), 0);
        eq("given", x.cloth(1, 1), 20);
        eq("quilts", x.cloth(1, 2), 3);
        eq("scraps", x.cloth(1, 3), 3);
        eq("returned", x.cloth(1, 4), 14);
        eq("returned of f", x.cloth(5, 4), 1);
        eq("nothing of a", x.cloth(0, 1), 0);
        CHECKS.bounds("colour 6", () -> x.cloth(6, 0));
        CHECKS.bounds("colour -1", () -> x.cloth(-1, 5));
        CHECKS.bounds("colour max", () -> x.cloth(MAX, 0));
        CHECKS.argument("what 5", () -> x.cloth(0, 5));
        CHECKS.argument("what -1", () -> x.cloth(5, -1));
    }

    private static void promise8Frame() {
        QuiltGuild x = with(1);
        for (int what = 0; what <= 6; what++) {
            eq("an empty frame " + what, x.frame(2, what), 0);
        }
        startWith(x, 2, "[(aab)(aac)]");
        eq("width", x.frame(2, 0), 3);
        eq("height", x.frame(2, 1), 2);
        eq("sewn", x.frame(2, 2), 0);
        eq("colours", x.frame(2, 3), 3);
        eq("seams", x.frame(2, 4), 3);
        eq("pieces", x.frame(2, 5), 3);
        eq("greatest", x.frame(2, 6), 4);
        startWith(x, 0, "(abb)");
        eq("a colour of the first patch alone", x.frame(0, 3), 2);
        x.takeApart(0);
        x.give(0, 0, 1);
        x.sew(2, 5);
        eq("sewn 1", x.frame(2, 2), 1);
        x.takeApart(2);
        for (int what = 0; what <= 6; what++) {
            eq("empty again " + what, x.frame(2, what), 0);
        }
        CHECKS.bounds("frame 3", () -> x.frame(3, 0));
        CHECKS.bounds("frame -1", () -> x.frame(-1, 7));
        CHECKS.bounds("frame min", () -> x.frame(MIN, 0));
        CHECKS.argument("what 7", () -> x.frame(0, 7));
        CHECKS.argument("what -1", () -> x.frame(0, -1));
    }

    private static void promise8Pieces() {
        QuiltGuild x = new QuiltGuild();
        startWith(x, 0, "28^28a");
        eq("one piece", x.frame(0, 5), 1);
        eq("of 256", x.frame(0, 6), 256);
        eq("no seam", x.frame(0, 4), 0);
        startWith(x, 1, "[8(ab)8(ba)]");
        eq("two rows of a chessboard", x.frame(1, 5), 32);
        eq("seams of them", x.frame(1, 4), 46);
        eq("alone", x.frame(1, 6), 1);
        startWith(x, 2, "8(^8(ab)^8(ba))");
        eq("a whole chessboard", x.frame(2, 5), 256);
        eq("its seams", x.frame(2, 4), 480);
        QuiltGuild y = new QuiltGuild();
        startWith(y, 0, "[5a(a3ba)(abcba)(a3ba)(4aa)]");
        eq("rings", y.frame(0, 5), 3);
        eq("the outer ring", y.frame(0, 6), 16);
        eq("seams of rings", y.frame(0, 4), 12 + 4);
        startWith(y, 1, "[(aba)(aba)(aaa)(bab)]");
        eq("a piece that goes up again", y.frame(1, 5), 4);
        eq("its patches", y.frame(1, 6), 8);
        startWith(y, 2, "[(bba)(baa)(abb)]");
        eq("a piece that goes left", y.frame(2, 5), 4);
        eq("its three patches", y.frame(2, 6), 3);
        y.takeApart(2);
        startWith(y, 2, "[(bbba)(baaa)(babb)(aabb)]");
        eq("a piece that only goes left and down", y.frame(2, 5), 3);
        eq("its seven patches", y.frame(2, 6), 7);
        y.takeApart(2);
        startWith(y, 2, "[(abbb)(abab)(abab)(aaab)]");
        eq("a piece that goes up two patches", y.frame(2, 5), 2);
        eq("its patches on both sides", y.frame(2, 6), 8);
        y.takeApart(2);
        startWith(y, 2, "[(abb)(aba)(aaa)]");
        eq("a piece that goes up one patch", y.frame(2, 5), 2);
        eq("its patches with the last one", y.frame(2, 6), 6);
        y.takeApart(2);
        startWith(y, 2, "[(ab)(ba)]");
        eq("corners do not hang together", y.frame(2, 5), 4);
    }

    private static void promise9Patch() {
        QuiltGuild x = with(1);
        eq("empty", x.patch(0, 0, 0), NONE);
        startWith(x, 0, "[(abc)(def)]");
        eq("0 0", x.patch(0, 0, 0), 0);
        eq("2 0", x.patch(0, 2, 0), 2);
        eq("0 1", x.patch(0, 0, 1), 3);
        eq("2 1", x.patch(0, 2, 1), 5);
        eq("3 0", x.patch(0, 3, 0), NONE);
        eq("0 2", x.patch(0, 0, 2), NONE);
        eq("far", x.patch(0, MAX, MAX), NONE);
        eq("far right", x.patch(0, MAX, 0), NONE);
        eq("far below", x.patch(0, 0, MAX), NONE);
        x.give(0, 0, 1);
        x.sew(0, 1);
        eq("sewn or not", x.patch(0, 0, 0), 0);
        CHECKS.bounds("frame 3", () -> x.patch(3, 0, 0));
        CHECKS.bounds("frame -1", () -> x.patch(-1, -1, -1));
        CHECKS.argument("x -1", () -> x.patch(0, -1, 0));
        CHECKS.argument("y -1", () -> x.patch(0, 0, -1));
        CHECKS.argument("x min, empty", () -> x.patch(1, MIN, 0));
    }

    private static void promise9Layouts() {
        layout("f", "f");
        layout("(abc)", "abc");
        layout("[abc]", "a/b/c");
        layout("3(ab)", "ababab");
        layout("<(abc)", "cba");
        layout("^(ab)", "a/b");
        layout("^[ab]", "ba");
        layout("^^[ab]", "b/a");
        layout("^[(abc)(def)]", "da/eb/fc");
        layout("<[(abc)(def)]", "cba/fed");
        layout("<^[(abc)(def)]", "ad/be/cf");
        layout("^<[(abc)(def)]", "fc/eb/da");
        layout("^^^[(abc)(def)]", "cf/be/ad");
        layout("2[a(b)]", "aa/bb");
        layout("[(ab)<(ab)2c]", "ab/ba/cc");
        layout("([ab]2[cd]<(^(ef)[ab]))", "accae/bddbf");
        layout("[2(ab)2<(ab)]", "abab/baba");
        layout("^2^2(ab)", "baba/baba");
        layout("((a(bc))((d)))", "abcd");
        layout("[[a[bc]]d]", "a/b/c/d");
    }

    private static void promise10Count() {
        QuiltGuild x = with(1);
        eq("empty", x.count(0, 0, false), 0);
        eq("empty sewn", x.count(0, 0, true), 0);
        startWith(x, 1, "[(aab)(bba)]");
        eq("all a", x.count(1, 0, false), 3);
        eq("all b", x.count(1, 1, false), 3);
        eq("all c", x.count(1, 2, false), 0);
        eq("none sewn", x.count(1, 0, true), 0);
        x.give(0, 0, 5);
        x.give(0, 1, 2);
        x.sew(1, 99);
        eq("sewn a", x.count(1, 0, true), 2);
        eq("sewn b", x.count(1, 1, true), 2);
        eq("all a still", x.count(1, 0, false), 3);
        CHECKS.bounds("frame 3", () -> x.count(3, 0, false));
        CHECKS.bounds("frame -1", () -> x.count(-1, 0, true));
        CHECKS.bounds("colour 6", () -> x.count(1, 6, false));
        CHECKS.bounds("colour -1, empty", () -> x.count(0, -1, true));
    }

    private static void promise11Same() {
        QuiltGuild x = new QuiltGuild();
        for (int how = 0; how <= 2; how++) {
            CHECKS.holds("an empty one is, " + how, x.same(0, how));
        }
        sameAs("a", true, true, true);
        sameAs("(aba)", true, true, false);
        sameAs("(ab)", false, false, false);
        sameAs("[ab]", true, false, false);
        sameAs("[(abc)(cba)]", false, true, false);
        sameAs("[(ab)(ba)]", false, true, false);
        sameAs("[(ab)(ab)]", false, false, false);
        sameAs("[(aab)(aca)(baa)]", false, true, false);
        sameAs("[(aba)(bcb)(aba)]", true, true, true);
        sameAs("[(aabb)(cccb)(bccc)(bbaa)]", false, true, false);
        sameAs("[(abca)(cddb)(bddc)(acba)]", false, true, true);
        CHECKS.bounds("frame 3", () -> x.same(3, 0) ? 1 : 0);
        CHECKS.bounds("frame -1", () -> x.same(-1, 3) ? 1 : 0);
        CHECKS.argument("how 3", () -> x.same(0, 3) ? 1 : 0);
        CHECKS.argument("how -1", () -> x.same(0, -1) ? 1 : 0);
    }

    private static void sameAs(String text, boolean mirrored, boolean half, boolean quarter) {
        QuiltGuild x = new QuiltGuild();
        startWith(x, 1, text);
        eq(text + " mirrored", x.same(1, 0) ? 1 : 0, mirrored ? 1 : 0);
        eq(text + " by a half", x.same(1, 1) ? 1 : 0, half ? 1 : 0);
        eq(text + " by a quarter", x.same(1, 2) ? 1 : 0, quarter ? 1 : 0);
    }

    // ---- actions

    private static void promise12AddMember() {
        QuiltGuild x = new QuiltGuild();
        for (int m = 0; m < 5; m++) {
            eq("addMember", x.addMember(), m);
            eq("members", x.about(0), m + 1);
            eq("the turn stays", x.about(1), 0);
        }
        CHECKS.state("a sixth", x::addMember);
        eq("five are remembered", x.undo(), 4);
        eq("addMember again", x.addMember(), 4);
        x.give(4, 0, 9);
        x.undo();
        x.undo();
        x.addMember();
        eq("a new member has given nothing", x.member(4, 2), 0);
    }

    private static void promise13Give() {
        QuiltGuild x = with(2);
        eq("give 1", x.give(0, 5, 1), 1);
        eq("give 99", x.give(1, 5, 99), 100);
        eq("give another", x.give(1, 0, 7), 7);
        eq("given by 1", x.member(1, 2), 106);
        CHECKS.bounds("member 2", () -> x.give(2, 0, 1));
        CHECKS.bounds("member -1", () -> x.give(-1, 0, 0));
        CHECKS.bounds("colour 6", () -> x.give(0, 6, 1));
        CHECKS.bounds("colour -1", () -> x.give(0, -1, 100));
        CHECKS.argument("n 0", () -> x.give(0, 0, 0));
        CHECKS.argument("n 100", () -> x.give(0, 0, 100));
        CHECKS.argument("n min", () -> x.give(0, 0, MIN));
        eq("nothing changed", x.about(6), 107);
        eq("five were remembered", x.undo(), 4);
    }

    private static void promise14Start() {
        QuiltGuild x = new QuiltGuild();
        CHECKS.state("no text", () -> x.start(0));
        CHECKS.bounds("frame 3 without a text", () -> x.start(3));
        CHECKS.bounds("frame -1", () -> x.start(-1));
        type(x, "[(ab)(cd)]");
        eq("start", x.start(0), 4);
        CHECKS.state("not empty", () -> x.start(0));
        eq("the text is kept", x.start(1), 4);
        eq("its length too", x.clearText(), 10);
        type(x, "(ab");
        CHECKS.state("no pattern", () -> x.start(2));
        CHECKS.state("no pattern and not empty", () -> x.start(0));
        x.append(')');
        eq("start 2", x.start(2), 2);
        eq("three were remembered", x.undo(), 2);
        eq("frame 2 is empty again", x.frame(2, 0), 0);
        eq("the text is not undone", x.errorPosition(), NONE);
        eq("256 patches", startWith(x, 2, "28^28f"), 256);
    }

    private static void promise15Recolour() {
        QuiltGuild x = with(1);
        CHECKS.state("empty", () -> x.recolour(0, 0, 1));
        CHECKS.bounds("colour 6, empty", () -> x.recolour(0, 6, 1));
        startWith(x, 0, "(aabc)");
        startWith(x, 1, "(aabc)");
        eq("a and b", x.recolour(0, 0, 1), 3);
        CHECKS.holds("exchanged", shown(x, 0).equals("bbac"));
        CHECKS.holds("the other frame stays", shown(x, 1).equals("aabc"));
        eq("a colour and itself", x.recolour(0, 1, 1), 0);
        eq("with the first patch", x.recolour(0, 5, 1), 2);
        x.undo();
        eq("with the first patch, the other way", x.recolour(0, 1, 5), 2);
        x.undo();
        eq("one that is not there", x.recolour(0, 5, 2), 1);
        CHECKS.holds("exchanged again", shown(x, 0).equals("bbaf"));
        eq("two that are not there", x.recolour(0, 3, 4), 0);
        eq("undo", x.undo(), 6);
        x.undo();
        CHECKS.holds("undone", shown(x, 0).equals("bbac"));
        x.give(0, 1, 1);
        x.sew(0, 1);
        CHECKS.state("a patch is sewn", () -> x.recolour(0, 0, 1));
        CHECKS.bounds("frame 3", () -> x.recolour(3, 0, 0));
        CHECKS.bounds("frame -1", () -> x.recolour(-1, 0, 0));
        CHECKS.bounds("a -1", () -> x.recolour(0, -1, 0));
        CHECKS.bounds("a 6", () -> x.recolour(0, 6, 0));
        CHECKS.bounds("b -1", () -> x.recolour(0, 0, -1));
        CHECKS.bounds("b 6", () -> x.recolour(1, 0, 6));
    }

    private static void promise16Sew() {
        QuiltGuild x = new QuiltGuild();
        CHECKS.state("empty, nobody", () -> x.sew(0, 1));
        startWith(x, 0, "(aabca)");
        CHECKS.state("nobody", () -> x.sew(0, 1));
        x.addMember();
        CHECKS.state("empty", () -> x.sew(1, 1));
        CHECKS.bounds("frame 3", () -> x.sew(3, 0));
        CHECKS.bounds("frame -1", () -> x.sew(-1, 1));
        CHECKS.argument("n 0", () -> x.sew(0, 0));
        CHECKS.argument("n 100, empty", () -> x.sew(1, 100));
        CHECKS.argument("n -1", () -> x.sew(0, -1));
        eq("no cloth", x.sew(0, 99), 0);
        x.give(0, 0, 9);
        x.give(0, 2, 9);
        eq("at most one", x.sew(0, 1), 1);
        eq("as far as the cloth lasts", x.sew(0, 9), 1);
        eq("no b", x.sew(0, 9), 0);
        x.give(0, 1, 1);
        eq("as far as the pattern goes", x.sew(0, 9), 3);
        eq("all are sewn", x.frame(0, 2), 5);
        eq("nothing is left to do", x.sew(0, 9), 0);
        eq("stock of a", x.cloth(0, 0), 6);
        eq("stock of b", x.cloth(1, 0), 0);
        eq("c in quilts", x.cloth(2, 2), 1);
        eq("sewn so far", x.member(0, 0), 5);
    }

    private static void promise16Turns() {
        QuiltGuild x = with(3);
        startWith(x, 0, "(abb)");
        x.give(0, 0, 1);
        x.sew(0, 9);
        eq("turn 1", x.about(1), 1);
        x.sew(0, 9);
        eq("turn 2 after none", x.about(1), 2);
        x.addMember();
        x.sew(0, 9);
        eq("turn 3", x.about(1), 3);
        x.sew(0, 9);
        eq("turn 0", x.about(1), 0);
        x.give(0, 1, 1);
        x.sew(0, 9);
        eq("member 0 sewed", x.member(0, 0), 2);
        x.give(0, 1, 1);
        x.sew(0, 9);
        eq("member 1 sewed", x.member(1, 0), 1);
        CHECKS.argument("a wrong one", () -> x.sew(0, 0));
        eq("no turn for a wrong one", x.about(1), 2);
        eq("sewn by 0 of the frame", x.wouldGet(0, 0, 3), 2);
        eq("sewn by 1 of the frame", x.wouldGet(0, 1, 3), 1);
    }

    private static void promise17TakeApart() {
        QuiltGuild x = with(2);
        CHECKS.state("empty", () -> x.takeApart(0));
        CHECKS.bounds("frame 3", () -> x.takeApart(3));
        CHECKS.bounds("frame -1", () -> x.takeApart(-1));
        x.give(0, 0, 5);
        x.give(0, 1, 1);
        startWith(x, 0, "(abab)");
        x.sew(0, 9);
        eq("sewn patches", x.takeApart(0), 3);
        eq("scraps a", x.cloth(0, 3), 2);
        eq("scraps b", x.cloth(1, 3), 1);
        eq("not back in stock", x.cloth(0, 0), 3);
        eq("not in quilts", x.cloth(0, 2), 0);
        eq("empty now", x.about(2), 0);
        CHECKS.state("empty again", () -> x.takeApart(0));
        startWith(x, 0, "2a");
        eq("nothing is sewn on the new one", x.takeApart(0), 0);
        startWith(x, 0, "2a");
        x.sew(0, 9);
        eq("only what was sewn on the new one counts", x.wouldGet(0, 1, 10), 10);
    }

    private static void promise18Raffle() {
        QuiltGuild x = with(1);
        CHECKS.state("empty", () -> x.raffle(0, 0));
        CHECKS.argument("price -1, empty", () -> x.raffle(0, -1));
        CHECKS.argument("price 10000", () -> x.raffle(0, 10000));
        CHECKS.bounds("frame 3", () -> x.raffle(3, -1));
        CHECKS.bounds("frame -1", () -> x.raffle(-1, 0));
        x.give(0, 0, 2);
        startWith(x, 0, "3a");
        x.sew(0, 9);
        CHECKS.state("not finished", () -> x.raffle(0, 5));
        x.give(0, 0, 1);
        x.sew(0, 1);
        eq("raffle", x.raffle(0, 0), 3);
        eq("empty now", x.frame(0, 0), 0);
        eq("the cloth stays in quilts", x.cloth(0, 2), 3);
        eq("pence", x.member(0, 1), 0);
        x.give(0, 0, 1);
        startWith(x, 0, "a");
        x.sew(0, 1);
        eq("the highest price", x.raffle(0, 9999), 1);
        eq("pence", x.member(0, 1), 9999);
        eq("all pence", x.about(5), 9999);
    }

    private static void promise18Split() {
        split("(aaa)", new int[] {1, 1, 1}, 10, new int[] {4, 3, 3});
        split("(aaa)", new int[] {1, 1, 1}, 11, new int[] {4, 4, 3});
        split("(aaaaaa)", new int[] {1, 2, 3}, 100, new int[] {17, 33, 50});
        split("7a", new int[] {1, 2, 4}, 10, new int[] {1, 3, 6});
        split("7a", new int[] {1, 1, 1, 1, 3}, 5, new int[] {1, 1, 1, 0, 2});
        split("5a", new int[] {2, 0, 3}, 4, new int[] {2, 0, 2});
        split("5a", new int[] {0, 0, 5}, 9998, new int[] {0, 0, 9998});
        split("5a", new int[] {1, 1, 1, 1, 1}, 4, new int[] {1, 1, 1, 1, 0});
        split("8a", new int[] {3, 2, 3}, 1, new int[] {1, 0, 0});
        split("8a", new int[] {2, 3, 3}, 1, new int[] {0, 1, 0});
    }

    private static void split(String text, int[] sewn, int price, int[] due) {
        QuiltGuild x = with(sewn.length);
        x.give(0, 0, 99);
        startWith(x, 0, text);
        startWith(x, 1, "b");
        for (int n : sewn) {
            x.sew(n == 0 ? 1 : 0, Math.max(1, n));
        }
        for (int m = 0; m < due.length; m++) {
            eq("would get " + m + " of " + price, x.wouldGet(0, m, price), due[m]);
        }
        x.raffle(0, price);
        for (int m = 0; m < due.length; m++) {
            eq("gets " + m + " of " + price, x.member(m, 1), due[m]);
        }
    }

    private static void promise19ReturnCloth() {
        QuiltGuild x = with(3);
        eq("nothing", x.returnCloth(), 0);
        x.give(0, 0, 5);
        x.give(1, 0, 3);
        x.give(2, 1, 4);
        startWith(x, 0, "a");
        x.sew(0, 1);
        eq("returned", x.returnCloth(), 4 + 2 + 4);
        eq("to 0", x.member(0, 3), 4);
        eq("to 1", x.member(1, 3), 2);
        eq("to 2", x.member(2, 3), 4);
        eq("left over", x.cloth(0, 3), 1);
        eq("stock", x.about(6), 0);
        eq("again", x.returnCloth(), 0);
        x.give(1, 0, 2);
        eq("by what was given ever", x.returnCloth(), 1 + 1);
        eq("to 0, 2", x.member(0, 3), 5);
        eq("to 1, 2", x.member(1, 3), 3);
        x.give(2, 0, 1);
        eq("all becomes scraps", x.returnCloth(), 0);
        eq("scraps", x.cloth(0, 3), 2);
    }

    private static void promise19GreatNumbers() {
        QuiltGuild x = with(2);
        for (int i = 0; i < 500; i++) {
            x.give(i == 0 ? 1 : 0, 2, 99);
        }
        eq("a great stock", x.cloth(2, 0), 49500);
        eq("all of it", x.returnCloth(), 49500);
        eq("to 0", x.member(0, 3), 49500 - 99);
        eq("to 1", x.member(1, 3), 99);
    }

    private static void promise20Undo() {
        QuiltGuild x = new QuiltGuild();
        CHECKS.state("nothing", x::undo);
        x.addMember();
        x.give(0, 0, 5);
        startWith(x, 0, "(aab)");
        String[] seen = new String[4];
        seen[0] = all(x);
        x.recolour(0, 2, 1);
        seen[1] = all(x);
        x.sew(0, 2);
        seen[2] = all(x);
        x.returnCloth();
        seen[3] = all(x);
        x.takeApart(0);
        for (int i = 3; i >= 0; i--) {
            eq("still remembered", x.undo(), 3 + i);
            CHECKS.holds("as before action " + i, all(x).equals(seen[i]));
        }
        x.addMember();
        eq("the last one", x.undo(), 3);
        x.undo();
        x.undo();
        x.undo();
        CHECKS.state("all are taken back", x::undo);
        eq("no members", x.about(0), 0);
    }

    private static void promise20Raffles() {
        QuiltGuild x = with(3);
        x.give(0, 0, 9);
        startWith(x, 0, "3a");
        x.sew(0, 1);
        x.sew(0, 2);
        String finished = all(x);
        x.raffle(0, 90);
        String raffled = all(x);
        x.returnCloth();
        eq("returnCloth is remembered", x.undo(), 8);
        CHECKS.holds("the stock is back", all(x).equals(raffled));
        eq("raffle is remembered", x.undo(), 7);
        CHECKS.holds("the quilt is back", all(x).equals(finished));
        eq("patches raffled", x.about(4), 0);
        eq("pence", x.about(5), 0);
        eq("what 0 sewed of it is back", x.wouldGet(0, 0, 90), 30);
        eq("what 1 sewed of it is back", x.wouldGet(0, 1, 90), 60);
        x.undo();
        eq("the one of the next member is not", x.sew(0, 1), 1);
        x.sew(0, 1);
        eq("one by one", x.wouldGet(0, 1, 90), 30);
        eq("the third one too", x.wouldGet(0, 2, 90), 30);
    }

    private static void promise20WhatIsRemembered() {
        QuiltGuild x = with(1);
        for (int i = 1; i <= 20; i++) {
            x.give(0, 0, 1);
        }
        for (int left = 13; left >= 0; left--) {
            eq("of 14", x.undo(), left);
            eq("stock", x.cloth(0, 0), left + 6);
        }
        CHECKS.state("the oldest ones are forgotten", x::undo);
        x.returnCloth();
        eq("one that changes no number much", x.undo(), 0);
        startWith(x, 0, "a");
        x.recolour(0, 1, 1);
        eq("one that changes nothing", x.undo(), 1);
        CHECKS.argument("a wrong call", () -> x.give(0, 0, 0));
        CHECKS.state("another", () -> x.start(0));
        x.lacks(7, 0);
        x.canFinish();
        x.runScript(1, 2011);
        x.simulate(5, 9);
        x.save(0);
        eq("are no actions", x.undo(), 0);
        x.give(0, 0, 1);
        x.restore(0);
        CHECKS.state("restore forgets", x::undo);
    }

    // ---- what would be

    private static void promise21Lacks() {
        QuiltGuild x = with(1);
        eq("nothing to do", x.lacks(7, 0), 0);
        startWith(x, 0, "(aab)");
        startWith(x, 2, "(abb)");
        eq("a of 0", x.lacks(1, 0), 2);
        eq("a of 1", x.lacks(2, 0), 0);
        eq("a of 2", x.lacks(4, 0), 1);
        eq("a of all", x.lacks(7, 0), 3);
        eq("b of 0 and 2", x.lacks(5, 1), 3);
        eq("of none", x.lacks(0, 0), 0);
        eq("c", x.lacks(7, 2), 0);
        x.give(0, 0, 2);
        eq("with stock", x.lacks(7, 0), 1);
        eq("it suffices", x.lacks(1, 0), 0);
        x.sew(0, 1);
        eq("one is sewn", x.lacks(7, 0), 1);
        x.give(0, 0, 90);
        eq("more than enough", x.lacks(7, 0), 0);
        CHECKS.bounds("colour 6", () -> x.lacks(7, 6));
        CHECKS.bounds("colour -1 first", () -> x.lacks(8, -1));
        CHECKS.argument("set 8", () -> x.lacks(8, 0));
        CHECKS.argument("set -1", () -> x.lacks(-1, 0));
    }

    private static void promise22CanFinish() {
        QuiltGuild x = with(1);
        eq("no frames", x.canFinish(), 0);
        startWith(x, 0, "3a");
        startWith(x, 1, "2a");
        startWith(x, 2, "(ab)");
        eq("no cloth", x.canFinish(), 0);
        x.give(0, 0, 2);
        eq("frame 1", x.canFinish(), 2);
        x.give(0, 1, 1);
        eq("frame 1, not 2, as the number is smaller", x.canFinish(), 2);
        x.give(0, 0, 1);
        eq("1 and 2", x.canFinish(), 6);
        x.give(0, 0, 1);
        eq("0 and 2 before 1 and 2", x.canFinish(), 5);
        x.give(0, 0, 1);
        eq("0 and 1 before all others", x.canFinish(), 3);
        x.give(0, 0, 1);
        eq("all", x.canFinish(), 7);
        x.takeApart(1);
        eq("without the empty one", x.canFinish(), 5);
        x.sew(0, 3);
        x.takeApart(2);
        eq("a finished one needs nothing", x.canFinish(), 1);
        QuiltGuild y = new QuiltGuild();
        startWith(y, 1, "a");
        eq("without members", y.canFinish(), 0);
    }

    private static void promise23WouldGet() {
        QuiltGuild x = with(2);
        eq("empty", x.wouldGet(0, 0, 5), NONE);
        x.give(0, 0, 9);
        startWith(x, 0, "3a");
        x.sew(0, 2);
        eq("not finished", x.wouldGet(0, 0, 5), NONE);
        x.sew(0, 1);
        eq("of 0", x.wouldGet(0, 0, 0), 0);
        eq("of 10, member 0", x.wouldGet(0, 0, 10), 7);
        eq("of 10, member 1", x.wouldGet(0, 1, 10), 3);
        eq("of 11, member 1", x.wouldGet(0, 1, 11), 4);
        x.addMember();
        eq("one who sewed nothing", x.wouldGet(0, 2, 9999), 0);
        eq("nothing changes", x.about(5), 0);
        CHECKS.bounds("frame 3", () -> x.wouldGet(3, 0, -1));
        CHECKS.bounds("frame -1", () -> x.wouldGet(-1, 0, 1));
        CHECKS.bounds("member 3", () -> x.wouldGet(0, 3, 10000));
        CHECKS.bounds("member -1", () -> x.wouldGet(0, -1, 1));
        CHECKS.argument("price -1", () -> x.wouldGet(0, 0, -1));
        CHECKS.argument("price 10000, empty", () -> x.wouldGet(1, 0, 10000));
    }

    private static void promise24Becomes() {
        QuiltGuild x = new QuiltGuild();
        eq("both empty", x.becomes(0, 1), NONE);
        startWith(x, 0, "[(abc)(def)]");
        eq("one empty", x.becomes(0, 1), NONE);
        eq("the other one", x.becomes(1, 0), NONE);
        String[] changes = {"", "^", "^^", "^^^", "<", "^<", "^^<", "^^^<"};
        for (int n = 0; n < 8; n++) {
            startWith(x, 1, changes[n] + "[(abc)(def)]");
            eq("becomes " + n, x.becomes(0, 1), n);
            x.takeApart(1);
        }
        startWith(x, 1, "[(abc)(dee)]");
        eq("another one", x.becomes(0, 1), NONE);
        startWith(x, 2, "(abc)");
        eq("another size", x.becomes(0, 2), NONE);
        eq("itself", x.becomes(2, 2), 0);
        QuiltGuild y = new QuiltGuild();
        startWith(y, 0, "(ab)");
        startWith(y, 1, "(ba)");
        eq("the smallest number", y.becomes(0, 1), 2);
        startWith(y, 2, "[ba]");
        eq("the smallest number, lying", y.becomes(0, 2), 3);
        CHECKS.bounds("frame 3", () -> x.becomes(3, 0));
        CHECKS.bounds("frame -1", () -> x.becomes(-1, 0));
        CHECKS.bounds("frame g 3", () -> x.becomes(0, 3));
        CHECKS.bounds("frame g -1", () -> y.becomes(0, -1));
    }

    // ---- scripts, simulations

    private static void promise25Arguments() {
        QuiltGuild x = with(1);
        CHECKS.argument("n 0", () -> x.runScript(0, 0));
        CHECKS.argument("n 5", () -> x.runScript(5, 5000));
        CHECKS.argument("n min", () -> x.runScript(MIN, 5000));
        CHECKS.argument("n max", () -> x.runScript(MAX, 5000));
        CHECKS.argument("negative", () -> x.runScript(1, -1));
        CHECKS.argument("long min", () -> x.runScript(4, Long.MIN_VALUE));
        CHECKS.argument("long max", () -> x.runScript(4, Long.MAX_VALUE));
        CHECKS.argument("5 digits", () -> x.runScript(1, 10000));
        CHECKS.argument("9 digits", () -> x.runScript(2, 100000000));
        CHECKS.argument("13 digits", () -> x.runScript(3, 1000000000000L));
        CHECKS.argument("17 digits", () -> x.runScript(4, 10000000000000000L));
        eq("4 digits", x.runScript(1, 5000), NONE);
        eq("16 digits", x.runScript(4, 5000500050005000L), NONE);
        eq("zeros before it", x.runScript(2, 5000), 0);
        eq("no digits", x.runScript(1, 0), 0);
        eq("the highest group is the first", x.runScript(4, 5000500012345000L), 2);
        eq("the last one", x.runScript(4, 5000500050009999L), 3);
    }

    private static void promise25Commands() {
        QuiltGuild x = with(2);
        x.give(0, 0, 20);
        startWith(x, 0, "(aab)");
        startWith(x, 1, "2a");
        eq("1: sew", x.runScript(2, 10027002), NONE);
        eq("1: sew, and one more", x.runScript(2, 10027003), 1);
        eq("1: sew 99", x.runScript(2, 10997002), NONE);
        eq("1: sew 10", x.runScript(2, 11107102), NONE);
        eq("2: give", x.runScript(2, 21198109), NONE);
        eq("2: give, and one more", x.runScript(2, 21198110), 1);
        eq("3: take apart", x.runScript(2, 30003000), 1);
        eq("4: raffle", x.runScript(3, 110241109001L), NONE);
        eq("4: raffle, and more", x.runScript(3, 110241129013L), 2);
        eq("4: raffle at 0", x.runScript(3, 110241007100L), NONE);
        eq("4: raffle what is not finished", x.runScript(2, 10034000), 1);
        eq("5: return", x.runScript(2, 50008001), 1);
        eq("5: return, nothing is left", x.runScript(3, 500080008000L), NONE);
        eq("6: recolour", x.runScript(3, 601210027002L), NONE);
        eq("6: recolour, no cloth then", x.runScript(3, 600210027001L), 2);
        eq("6: recolour what is sewn", x.runScript(2, 10016012), 1);
        eq("7: at least 0", x.runScript(1, 7000), NONE);
        eq("7: at least 0 on an empty frame", x.runScript(1, 7200), NONE);
        eq("7: at least 1", x.runScript(1, 7001), 0);
        eq("8: at least 20", x.runScript(1, 8020), NONE);
        eq("8: at least 21", x.runScript(1, 8021), 0);
        eq("9: at least 0", x.runScript(1, 9100), NONE);
        eq("9: at least 1", x.runScript(1, 9101), 0);
    }

    private static void promise25WrongCommands() {
        QuiltGuild x = with(2);
        x.give(0, 0, 20);
        startWith(x, 0, "(aab)");
        int[] wrong = {0, 1, 999, 1000, 1300, 1301, 1101, 1901, 2000, 2200, 2201, 2061, 2991, 2060, 3001, 3010,
            3100, 3300, 3900, 4000, 4099, 4100, 4300, 5001, 5010, 5100, 5999, 6300, 6060, 6006, 6100, 6312, 7300, 7900,
            7199, 8600, 8900, 8021, 8101, 9200, 9500, 9900, 9001, 9199};
        for (int command : wrong) {
            eq("command " + command, x.runScript(1, command), 0);
            eq("command " + command + " behind another", x.runScript(2, 70000000L + command), 1);
        }
        int[] right = {1001, 1099, 2001, 2159, 3000, 5000, 6012, 6011, 6055, 7000, 7100, 8000, 8020, 8500, 9000, 9100};
        for (int command : right) {
            eq("command " + command, x.runScript(1, command), NONE);
        }
        QuiltGuild nobody = new QuiltGuild();
        startWith(nobody, 0, "a");
        eq("nobody sews", nobody.runScript(1, 1001), 0);
        eq("nobody gives", nobody.runScript(1, 2001), 0);
        eq("nobody has pence", nobody.runScript(1, 9000), 0);
        eq("cloth can be returned", nobody.runScript(1, 5000), NONE);
    }

    private static void promise25Copy() {
        QuiltGuild x = with(2);
        x.give(1, 0, 20);
        startWith(x, 0, "(aa)");
        String before = all(x);
        eq("all succeed", x.runScript(4, 1001100140995000L), NONE);
        CHECKS.holds("only a copy is changed", all(x).equals(before));
        eq("the turns of the copy", x.runScript(4, 1001100140999149L), NONE);
        eq("the turns of the copy, more", x.runScript(4, 1001100140999150L), 3);
        eq("the pennies of the copy", x.runScript(4, 1001100140999050L), NONE);
        eq("a recoloured copy", x.runScript(2, 60011001), NONE);
        CHECKS.holds("its colours are its own", all(x).equals(before));
        eq("undo knows nothing of it", x.undo(), 3);
    }

    private static void promise26Simulate() {
        QuiltGuild x = new QuiltGuild();
        CHECKS.argument("m 0", () -> x.simulate(0, 0));
        CHECKS.argument("m 100", () -> x.simulate(0, 100));
        CHECKS.argument("m min", () -> x.simulate(0, MIN));
        CHECKS.argument("m max", () -> x.simulate(0, MAX));
        eq("nobody", x.simulate(7, 99), 0);
        startWith(x, 0, "a");
        eq("nobody, with a frame", x.simulate(7, 99), 0);
        for (long seed : new long[] {0, 1, -1, 12345, Long.MIN_VALUE, Long.MAX_VALUE}) {
            for (int m : new int[] {1, 2, 17, 99}) {
                eq("simulate " + seed + " " + m, evening(3).simulate(seed, m), simulated(evening(3), seed, m));
                eq("simulate for 1 " + seed + " " + m, evening(1).simulate(seed, m), simulated(evening(1), seed, m));
            }
        }
        for (long seed = 0; seed < 40; seed++) {
            eq("simulate without cloth " + seed, scarce().simulate(seed, 60), simulated(scarce(), seed, 60));
        }
        QuiltGuild y = evening(3);
        String before = all(evening(3));
        eq("known evenings", y.simulate(0, 99), simulated(evening(3), 0, 99));
        CHECKS.holds("only a copy is changed", all(y).equals(before));
        eq("undo knows nothing of it", y.undo(), 7);
    }

    private static QuiltGuild evening(int members) {
        QuiltGuild x = with(members);
        x.give(0, 0, 99);
        x.give(0, 0, 99);
        startWith(x, 0, "28^8a");
        startWith(x, 1, "5a");
        startWith(x, 2, "(ab)");
        return x;
    }

    /** All cloth that is sewn was given in the evenings themselves, and each colour is needed. */
    private static QuiltGuild scarce() {
        QuiltGuild x = with(2);
        startWith(x, 0, "[(abcdef)(fedcba)]");
        startWith(x, 1, "28^28a");
        startWith(x, 2, "28^28b");
        return x;
    }

    /** The evenings of promise 26 by the actions themselves. */
    private static int simulated(QuiltGuild x, long seed, int m) {
        int sewn = 0;
        long state = seed;
        for (int i = 0; i < m; i++) {
            state = state * 6364136223846793005L + 1442695040888963407L;
            int r = (int) (state >>> 33);
            int f = r / 64 % 3;
            if (r % 4 == 0) {
                x.give(r / 4 % x.about(0), r / 512 % 6, 1 + r / 32 % 9);
            } else if (x.frame(f, 0) > 0) {
                sewn += x.sew(f, 1 + r / 4 % 9);
                if (x.frame(f, 2) == x.frame(f, 0) * x.frame(f, 1)) {
                    x.raffle(f, 100);
                }
            }
        }
        return 1000 * x.about(3) + Math.min(999, sewn);
    }

    private static void promise26Evenings() {
        QuiltGuild x = with(1);
        x.give(0, 0, 99);
        startWith(x, 0, "a");
        startWith(x, 1, "a");
        startWith(x, 2, "a");
        x.sew(0, 1);
        x.sew(1, 1);
        x.sew(2, 1);
        eq("finished ones are raffled without a patch", x.simulate(0, 99), 3000);
        eq("raffled before does not count", x.raffle(0, 5), 1);
        eq("so two are left", x.simulate(0, 99), 2000);
    }

    // ---- save slots

    private static void promise27And28SaveAndRestore() {
        QuiltGuild x = with(2);
        CHECKS.bounds("save -1", () -> x.save(-1));
        CHECKS.bounds("save 2", () -> x.save(2));
        CHECKS.bounds("restore -1", () -> x.restore(-1));
        CHECKS.bounds("restore 2", () -> x.restore(2));
        CHECKS.bounds("restore max", () -> x.restore(MAX));
        CHECKS.state("restore nothing", () -> x.restore(1));
        x.give(1, 3, 8);
        startWith(x, 1, "(ddd)");
        x.sew(1, 2);
        String first = all(x);
        eq("save", x.save(1), 2);
        CHECKS.state("the other slot is empty", () -> x.restore(0));
        eq("save remembers nothing", x.undo(), 4);
        x.sew(1, 1);
        x.addMember();
        x.returnCloth();
        String second = all(x);
        eq("save the second", x.save(0), 3);
        type(x, "(ab");
        eq("restore", x.restore(1), 2);
        CHECKS.holds("the first is back", all(x).equals(first));
        CHECKS.state("nothing is remembered", x::undo);
        eq("the text stays", x.clearText(), 3);
        x.takeApart(1);
        eq("restore the second", x.restore(0), 3);
        CHECKS.holds("the second is back", all(x).equals(second));
        x.restore(1);
        CHECKS.holds("the slot keeps it", all(x).equals(first));
        x.give(0, 0, 1);
        eq("undo after restore", x.undo(), 0);
        CHECKS.holds("the first once more", all(x).equals(first));
        x.returnCloth();
        eq("save over it", x.save(1), 2);
        x.restore(1);
        eq("the newer one", x.about(6), 0);
    }
}
