/** Promises 2 to 4 and the part "Text" of the section "Terms" of ../shared/DOC.md, sentence by sentence. */
public final class TextTest extends Guilds {
    private static final int MOST = 60;

    public static void main(String[] args) {
        codesThatAreTaken();
        newLength();
        atMost60Characters();
        previousLength();
        oneBlockWithoutBlanks();
        otherHeightOrWidth();
        togetherTooWideOrHigh();
        copiesTooWide();
        notAllowedAtItsPlace();
        endsTooSoon();
        checkedAsSoonAsItHasEnded();
        foundFirstInReading();
        asDeepAsTheTextIsLong();
        readAnew();
        checkingChangesNothing();
        CHECKS.close("TextTest");
    }

    // ---- append, clearText

    /** "c: character code, 0 to 255" "Appends a character to the text buffer." */
    private static void codesThatAreTaken() {
        for (int c = 0; c <= 255; c++) {
            QuiltGuild x = new QuiltGuild();
            eq("append " + c, x.append(c), 1);
            boolean isColour = c >= 'a' && c <= 'f';
            eq("a letter of a colour, or not: " + c, x.errorPosition() == NONE ? 1 : 0, isColour ? 1 : 0);
        }
        CHECKS.argument("append -1", () -> new QuiltGuild().append(-1));
        CHECKS.argument("append 256", () -> new QuiltGuild().append(256));
        CHECKS.argument("append 256 + 'a'", () -> new QuiltGuild().append(256 + 'a'));
        QuiltGuild x = new QuiltGuild();
        type(x, "(");
        x.append(255);
        x.append(')');
        eq("a sign that is not allowed stays in the text", x.errorPosition(), 1);
    }

    /** "Returns the new length of the text." */
    private static void newLength() {
        QuiltGuild x = new QuiltGuild();
        for (int length = 1; length <= MOST; length++) {
            eq("the new length", x.append(length % 2 == 0 ? 0 : 'a'), length);
        }
        x.clearText();
        eq("the new length of an emptied text", x.append('a'), 1);
        CHECKS.argument("a refused one", () -> x.append(-1));
        eq("the new length behind a refused one", x.append('a'), 2);
    }

    /** "The object has a text buffer of at most 60 characters." */
    private static void atMost60Characters() {
        QuiltGuild x = new QuiltGuild();
        type(x, LONGEST_PATTERN.substring(0, MOST - 1));
        eq("59 characters", x.errorPosition(), 59);
        eq("the 60th is taken", x.append(')'), 60);
        CHECKS.state("the 61st is refused", () -> x.append(')'));
        CHECKS.state("0 too", () -> x.append(0));
        CHECKS.argument("what is no character is refused as such", () -> x.append(256));
        CHECKS.argument("below as well", () -> x.append(-1));
        eq("60 characters are a pattern", x.errorPosition(), NONE);
        eq("it can be started", x.start(0), 16);
        shows("the longest one", x, 0, "abcdefabcdefabcd");
        eq("it is still as long", x.clearText(), 60);
        eq("an emptied one takes characters again", x.append('f'), 1);
    }

    /** "Empties the text buffer." "Returns the previous length of the text." */
    private static void previousLength() {
        QuiltGuild x = new QuiltGuild();
        eq("of a new one", x.clearText(), 0);
        for (int length = 0; length <= MOST; length += 10) {
            type(x, "c".repeat(length));
            eq("the previous length", x.clearText(), length);
            eq("it is empty then", x.clearText(), 0);
        }
        type(x, "(ab)");
        x.clearText();
        eq("the length of an emptied text is its error position", x.errorPosition(), 0);
        CHECKS.state("an emptied text is no pattern", () -> x.start(0));
        x.append('d');
        eq("nothing is left of the one before", x.errorPosition(), NONE);
        x.start(0);
        shows("nothing is left of it in the pattern", x, 0, "d");
    }

    // ---- errorPosition

    /** "It tells a pattern if it is just one block, without blanks." "NONE if it is a pattern" */
    private static void oneBlockWithoutBlanks() {
        String[] blocks = {"a", "f", "(a)", "[a]", "2a", "9f", "<a", "^a", "(ab)", "[ab]", "2(ab)", "<^2[ab]",
            "([ab][cd])"};
        for (String block : blocks) {
            error(block, NONE);
            error(block + "a", block.length());
            error(block + block, block.length());
            error(block + " ", block.length());
            error(block + ")", block.length());
            error(block + "]", block.length());
            error(" " + block, 0);
        }
        error("2 a", 1);
        error("< a", 1);
        error("^ a", 1);
        error("( a)", 1);
        error("(a )", 2);
        error("[a b]", 2);
        error("a\t", 1);
        error("\n", 0);
    }

    /** "the index of the first character of a block .. that has another height or width than those before it there" */
    private static void otherHeightOrWidth() {
        error("(a[bc])", 2);
        error("(ab[cd])", 3);
        error("([ab]c)", 5);
        error("(a<^^^(bc))", 2);
        error("(a2[bc])", 2);
        error("(a(^(bc)))", 2);
        error("(a^(bc))", 2);
        error("(a^[bc])", NONE);
        error("[a(bc)]", 2);
        error("[ab(cd)]", 3);
        error("[(ab)c]", 5);
        error("[a2b]", 2);
        error("[a[2b]]", 2);
        error("[a^[bc]]", 2);
        error("[a^(bc)]", NONE);
        error("[2a<3b]", 3);
        error("[2a<2b]", NONE);
        error("((ab)([cd]e))", 10);
        error("([(ab)(cd)][(ef)g])", 16);
        error("(ab)", NONE);
        error("(a2b)", NONE);
        error("[a[bc]]", NONE);
    }

    /** ".. or with which they together would be wider or higher than 16" */
    private static void togetherTooWideOrHigh() {
        error("(28a)", NONE);
        error("(28aa)", 4);
        error("(8a8a)", NONE);
        error("(8a9a)", 3);
        error("(8a<9a)", 3);
        error("(8a8ab)", 5);
        error("(8a(44a))", 3);
        error("(28a(aa))", 4);
        error("(aaaaaaaaaaaaaaaa)", NONE);
        error("(aaaaaaaaaaaaaaaaa)", 17);
        error("[^28a]", NONE);
        error("[^28aa]", 5);
        error("[^8a^8a]", NONE);
        error("[^8a^9a]", 4);
        error("[^8a<^9a]", 4);
        error("[^8a^8ab]", 7);
        error("[aaaaaaaaaaaaaaaa]", NONE);
        error("[aaaaaaaaaaaaaaaaa]", 17);
        error("[28a28a]", NONE);
        error("(^28a^28a)", NONE);
        error("[28^28a]", NONE);
        error("(28^28a)", NONE);
        error("[28^28a28a]", 7);
        error("(28^28a^28a)", 7);
    }

    /** "the index of a digit if the copies would be wider than 16" */
    private static void copiesTooWide() {
        int[] mostPatches = {8, 5, 4, 3, 2, 2, 2, 1};
        for (int n = 2; n <= 9; n++) {
            String row = "abcdefabc".substring(0, mostPatches[n - 2]);
            error(n + "(" + row + ")", NONE);
            error(n + "(" + row + "f)", 0);
            error("(a" + n + "(" + row + "f))", 2);
            error("<" + n + "(" + row + "f)", 1);
            error(n + "^(" + row + "f)", NONE);
        }
        error("28a", NONE);
        error("29a", 0);
        error("82a", NONE);
        error("92a", 0);
        error("2222a", NONE);
        error("22222a", 0);
        error("222222a", 1);
        error("23222a", 1);
        error("99a", 0);
        error("999a", 1);
        error("^29a", 1);
        error("2^29a", 2);
        error("28^29a", 3);
        error("28^28a", NONE);
        error("9^9a", NONE);
        error("2[29a28a]", 2);
    }

    /** "the index of the first character that is not allowed at its place": each character at each kind of place. */
    private static void notAllowedAtItsPlace() {
        String begins = "abcdef23456789<^([";
        allowed("", begins);
        allowed("2", begins);
        allowed("<", begins);
        allowed("^", begins);
        allowed("(", begins);
        allowed("[", begins);
        allowed("(2", begins);
        allowed("[<", begins);
        allowed("(a^", begins);
        allowed("((", begins);
        allowed("[(", begins);
        allowed("(a", begins + ")");
        allowed("[a", begins + "]");
        allowed("([a]", begins + ")");
        allowed("[(a)", begins + "]");
        allowed("([a", begins + "]");
        allowed("[(a", begins + ")");
        allowed("(<2a", begins + ")");
        allowed("a", "");
        allowed("(a)", "");
        allowed("[a]", "");
        allowed("<^2a", "");
    }

    private static void allowed(String before, String signs) {
        for (char c = 0; c <= 255; c++) {
            boolean isError = errorOf(before + c) == before.length();
            CHECKS.eq("behind " + before + " the character " + (int) c + " is an error", isError ? 1 : 0,
                signs.indexOf(c) >= 0 ? 0 : 1);
        }
    }

    /** "the length of the text if it ends too soon" */
    private static void endsTooSoon() {
        error("", 0);
        String[] texts = {LONGEST_PATTERN, "([ab]2[cd]<(^(ef)[ab]))", "[(abc)<(def)^^3a]",
            "^".repeat(59) + "a", "2<2^2[ab]"};
        for (String text : texts) {
            for (int length = 0; length < text.length(); length++) {
                error(text.substring(0, length), length);
            }
            error(text, NONE);
        }
        error("(".repeat(60), 60);
        error("[".repeat(60), 60);
        error("<".repeat(60), 60);
        error("^".repeat(60), 60);
        error("2".repeat(60), 60);
        error("(" + "2".repeat(59), 60);
    }

    /** "The text is read from left to right, and a block is checked as soon as it has ended." */
    private static void checkedAsSoonAsItHasEnded() {
        error("(a[bc", 5);
        error("(a[bc]", 2);
        error("(a2[bc", 6);
        error("(a2[bc]", 2);
        error("(a^2b", 2);
        error("[a2", 3);
        error("[a2b", 2);
        error("(99", 3);
        error("(99a", 1);
        error("9(ab", 4);
        error("9(ab)", 0);
        error("(8a9", 4);
        error("(8a9a", 3);
        error("[(ab)(cde", 9);
        error("[(ab)(cde)", 5);
        error("aa", 1);
    }

    /** "whichever of these is found first in reading" */
    private static void foundFirstInReading() {
        error("(a[bcx]", 5);
        error("(a[bc]x", 2);
        error("(a[bc)", 5);
        error("(a[bc]]", 2);
        error("(99x", 3);
        error("(99ax", 1);
        error("(x99a)", 1);
        error("(a<99a)", 3);
        error("(^(ab)<29a)", 7);
        error("(9a<29a)", 4);
        error("(9a<8a)x", 3);
        error("([abc(de)]f)", 5);
        error("(a[b(cd)])", 4);
        error("((ab)[c(de)][fa])", 7);
        error("2(9a9a)", 4);
        error("9(ab)c", 0);
        error("[^9a^9a(bc)]", 4);
        error("(a[b])c", 6);
    }

    /** The text is the only bound of how deep blocks may lie within blocks. */
    private static void asDeepAsTheTextIsLong() {
        deep("^".repeat(59) + "e", "e");
        deep("<".repeat(59) + "e", "e");
        deep("(".repeat(29) + "ab" + ")".repeat(29), "ab");
        deep("[".repeat(29) + "ab" + "]".repeat(29), "a/b");
        deep("([".repeat(14) + "(ab)" + "])".repeat(14), "ab");
        deep("<".repeat(57) + "2d", "dd");
        deep("^".repeat(57) + "2d", "d/d");
        deep("^".repeat(55) + "(ab)", "b/a");
        deep("(a".repeat(15) + "b" + ")".repeat(15), "aaaaaaaaaaaaaaab");
        deep("[a".repeat(15) + "b" + "]".repeat(15), "a/".repeat(15) + "b");
        error("(a".repeat(16) + "b" + ")".repeat(16), 2);
        error("(".repeat(30) + "a" + ")".repeat(29), 60);
        error("(".repeat(20) + "a" + ")".repeat(20) + ")", 41);
    }

    private static void deep(String text, String due) {
        error(text, NONE);
        layout(text, due);
    }

    /** One text after another on one object: nothing of what was read before is left in the next one. */
    private static void readAnew() {
        String[] texts = {"([ab]2[cd]<(^(ef)[ab]))", "(ab)", "[ab]", "a", "[(ab)<(ab)2c]", "(a(b(c(d))))", "3(abc)",
            "f"};
        String[] due = {"accae/bddbf", "ab", "a/b", "a", "ab/ba/cc", "abcd", "abcabcabc", "f"};
        String[] wrong = {"", "(a[bc])", "[(ab", "29a", "ab", "()", "(((((", "<"};
        int[] errors = {0, 2, 4, 0, 1, 1, 5, 1};
        QuiltGuild x = new QuiltGuild();
        for (int i = 0; i < texts.length; i++) {
            startWith(x, 0, texts[i]);
            shows(texts[i] + " behind others", x, 0, due[i]);
            x.takeApart(0);
            type(x, wrong[i]);
            eq(wrong[i] + " behind others", x.errorPosition(), errors[i]);
        }
    }

    /** "Checks the text." */
    private static void checkingChangesNothing() {
        only("checking what is no pattern", BUSY, QuiltGuild::errorPosition, 3);
        only("checking a pattern", YOUNG, QuiltGuild::errorPosition, NONE);
        only("checking the longest pattern", FULL, QuiltGuild::errorPosition, NONE);
        only("checking nothing", FRESH, QuiltGuild::errorPosition, 0);
        QuiltGuild x = new QuiltGuild();
        type(x, "(a[bc]");
        eq("an error", x.errorPosition(), 2);
        eq("the same again", x.errorPosition(), 2);
        eq("characters are taken behind an error", x.append(')'), 7);
        eq("it stays", x.errorPosition(), 2);
        type(x, "(ab");
        eq("too soon", x.errorPosition(), 3);
        x.append(')');
        eq("now it is a pattern", x.errorPosition(), NONE);
        x.append(')');
        eq("now it is none", x.errorPosition(), 4);
    }
}
