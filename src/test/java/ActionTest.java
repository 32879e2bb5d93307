/** Promises 12 to 20 of ../shared/DOC.md and "Actions and undo" of its section "Terms", sentence by sentence. */
public final class ActionTest extends Guilds {
    private static final int MOST_REMEMBERED = 14;

    public static void main(String[] args) {
        addMember();
        aNewMemberHasNothing();
        give();
        startPutsThePattern();
        startKeepsTheText();
        startNeedsAnEmptyFrame();
        recolour();
        recolourNeedsAPatternWithoutASewnPatch();
        sewAtMost();
        sewAsFarAsThePatternGoes();
        sewAsFarAsTheClothLasts();
        sewByTheMemberOnTurn();
        takeApart();
        aNewQuiltBeginsAnew();
        raffle();
        raffleNeedsAFinishedQuilt();
        returnCloth();
        returnOfGreatStocks();
        eachCallIsAnAction();
        alsoIfNothingBecomesDifferent();
        whatIsNoAction();
        atMost14StatesAreRemembered();
        theRingOfStates();
        undoIsNoAction();
        undoTakesBackAll();
        everythingButTextAndSlots();
        as512Calls();
        CHECKS.close("ActionTest");
    }

    // ---- addMember, give

    /** "Returns the number of the member." */
    private static void addMember() {
        QuiltGuild x = new QuiltGuild();
        for (int m = 0; m < 5; m++) {
            CHECKS.bounds("not there yet", () -> x.member(x.about(0), 0));
            eq("the number", x.addMember(), m);
            eq("there now", x.member(m, 0), 0);
        }
        CHECKS.state("with 5 members", x::addMember);
        x.undo();
        eq("with 4 members again", x.addMember(), 4);
        CHECKS.state("with 5 members again", x::addMember);
    }

    private static void aNewMemberHasNothing() {
        QuiltGuild x = framed(2, "(aaa)");
        x.give(1, 0, 3);
        x.sew(0, 1);
        x.sew(0, 2);
        x.raffle(0, 8);
        x.give(1, 0, 5);
        x.returnCloth();
        eq("the second one has sewn", x.member(1, 0), 2);
        QuiltGuild y = with(1);
        y.addMember();
        y.give(1, 0, 3);
        y.undo();
        y.undo();
        CHECKS.bounds("taken back", () -> y.member(1, 0));
        eq("added anew", y.addMember(), 1);
        for (int what = 0; what <= 3; what++) {
            eq("nothing of the one that was taken back, " + what, y.member(1, what), 0);
        }
        y.give(0, 0, 3);
        y.returnCloth();
        eq("all is returned to the other one", y.member(0, 3), 3);
    }

    /** "n: 1 to 99" "Returns the pieces of this colour in the stock then." */
    private static void give() {
        QuiltGuild x = with(5);
        eq("the fewest", x.give(0, 0, 1), 1);
        eq("the most", x.give(4, 0, 99), 100);
        eq("the last colour", x.give(4, 5, 2), 2);
        eq("the first colour has what it had", x.cloth(0, 0), 100);
        startWith(x, 0, "3a");
        x.sew(0, 3);
        eq("in the stock, not all that was given", x.give(1, 0, 1), 98);
        x.returnCloth();
        eq("in a stock that was returned", x.give(1, 0, 7), 7);
        eq("given by 1", x.member(1, 2), 8);
        eq("given of the colour", x.cloth(0, 1), 108);
        CHECKS.argument("one less", () -> x.give(0, 0, 0));
        CHECKS.argument("one more", () -> x.give(0, 0, 100));
    }

    // ---- start

    /** "Puts the pattern of the text on a frame." "Returns the number of its patches." */
    private static void startPutsThePattern() {
        String[] texts = {"a", "(ab)", "28a", "^28a", "[(abc)(def)]", "28^28f"};
        int[] patches = {1, 2, 16, 16, 6, 256};
        for (int f = 0; f < 3; f++) {
            for (int i = 0; i < texts.length; i++) {
                QuiltGuild x = new QuiltGuild();
                eq("patches of " + texts[i], startWith(x, f, texts[i]), patches[i]);
                eq("their number", x.frame(f, 0) * x.frame(f, 1), patches[i]);
                eq("none is sewn", x.frame(f, 2), 0);
                eq("on one frame alone", x.about(2), 1);
            }
        }
        QuiltGuild x = new QuiltGuild();
        startWith(x, 0, "(ab)");
        type(x, "(cd");
        shows("the pattern has nothing to do with a later text", x, 0, "ab");
    }

    /** "Keeps the text." */
    private static void startKeepsTheText() {
        QuiltGuild x = new QuiltGuild();
        type(x, "[(ab)(cd)]");
        for (int f = 0; f < 3; f++) {
            eq("started once more", x.start(f), 4);
            shows("once more", x, f, "ab/cd");
        }
        eq("still a pattern", x.errorPosition(), NONE);
        x.recolour(0, 0, 5);
        shows("recoloured", x, 0, "fb/cd");
        shows("the others are not", x, 1, "ab/cd");
        x.takeApart(0);
        x.start(0);
        shows("the text keeps its colours", x, 0, "ab/cd");
        eq("as long as before", x.clearText(), 10);
    }

    /** "if the text is not a pattern, or the frame is not empty" */
    private static void startNeedsAnEmptyFrame() {
        QuiltGuild x = with(1);
        CHECKS.state("no text", () -> x.start(0));
        String[] wrong = {"(", "ab", "(ab", "29a", "(a[bc])", " a", "()", "g"};
        for (String text : wrong) {
            type(x, text);
            CHECKS.state("the text " + text, () -> x.start(1));
        }
        x.give(0, 0, 2);
        eq("an empty frame and a pattern", startWith(x, 0, "2a"), 2);
        CHECKS.state("a pattern is on it", () -> x.start(0));
        x.sew(0, 1);
        CHECKS.state("one patch is sewn", () -> x.start(0));
        x.sew(0, 1);
        CHECKS.state("a finished one", () -> x.start(0));
        type(x, "(a");
        CHECKS.state("neither nor", () -> x.start(0));
        type(x, "b");
        x.raffle(0, 1);
        eq("behind a raffle", x.start(0), 1);
        x.takeApart(0);
        eq("behind taking apart", x.start(0), 1);
        x.undo();
        eq("behind undo", x.start(0), 1);
        CHECKS.state("now not again", () -> x.start(0));
    }

    // ---- recolour

    /** "Exchanges two colours in the pattern of a frame." "Returns how many patches have another colour then." */
    private static void recolour() {
        QuiltGuild x = framed(0, "[(abf)(aac)]");
        startWith(x, 1, "(ab)");
        eq("the first and the last colour", x.recolour(0, 0, 5), 4);
        shows("exchanged", x, 0, "fba/ffc");
        eq("and back", x.recolour(0, 5, 0), 4);
        shows("exchanged again", x, 0, "abf/aac");
        eq("a colour and itself", x.recolour(0, 0, 0), 0);
        shows("as it was", x, 0, "abf/aac");
        eq("the last colour and itself", x.recolour(0, 5, 5), 0);
        eq("two that are not in it", x.recolour(0, 3, 4), 0);
        eq("one that is not in it", x.recolour(0, 4, 1), 1);
        shows("all of them have the new one", x, 0, "aef/aac");
        eq("one that is not in it, the other way", x.recolour(0, 0, 3), 3);
        shows("all of them have the new one", x, 0, "def/ddc");
        shows("the other frame keeps its own", x, 1, "ab");
        eq("counted", x.count(0, 3, false), 3);
        eq("256 of them", startWith(x, 2, "28^28a"), 256);
        eq("all 256", x.recolour(2, 0, 1), 256);
    }

    /** "if the frame is empty, or a patch is sewn" */
    private static void recolourNeedsAPatternWithoutASewnPatch() {
        QuiltGuild x = with(1);
        CHECKS.state("an empty frame", () -> x.recolour(0, 0, 1));
        startWith(x, 0, "(ab)");
        eq("none is sewn", x.recolour(0, 0, 1), 2);
        x.sew(0, 9);
        eq("none was sewn without cloth", x.recolour(0, 0, 1), 2);
        x.give(0, 0, 1);
        x.give(0, 1, 1);
        x.sew(0, 1);
        CHECKS.state("one is sewn", () -> x.recolour(0, 0, 1));
        CHECKS.state("a colour and itself", () -> x.recolour(0, 1, 1));
        CHECKS.state("colours that are not in it", () -> x.recolour(0, 4, 5));
        x.sew(0, 1);
        CHECKS.state("all are sewn", () -> x.recolour(0, 0, 1));
        x.undo();
        x.undo();
        eq("undone", x.recolour(0, 0, 1), 2);
        x.takeApart(0);
        CHECKS.state("taken apart", () -> x.recolour(0, 0, 1));
    }

    // ---- sew

    /** "n: 1 to 99: how many at most" "Returns how many are sewn." */
    private static void sewAtMost() {
        QuiltGuild x = framed(1, "28^28a");
        for (int i = 0; i < 3; i++) {
            x.give(0, 0, 99);
        }
        eq("the fewest", x.sew(0, 1), 1);
        eq("the most", x.sew(0, 99), 99);
        eq("sewn", x.frame(0, 2), 100);
        eq("two", x.sew(0, 2), 2);
        eq("once more the most", x.sew(0, 99), 99);
        eq("as the pattern ends", x.sew(0, 99), 55);
        eq("all", x.frame(0, 2), 256);
        CHECKS.argument("one less", () -> x.sew(0, 0));
        CHECKS.argument("one more", () -> x.sew(0, 100));
        eq("stock", x.cloth(0, 0), 297 - 256);
    }

    /** "as far as .. the pattern goes" */
    private static void sewAsFarAsThePatternGoes() {
        QuiltGuild x = framed(1, "5a");
        x.give(0, 0, 99);
        eq("all but one", x.sew(0, 4), 4);
        eq("the last one", x.sew(0, 2), 1);
        eq("none is left", x.sew(0, 1), 0);
        eq("none is left for many", x.sew(0, 99), 0);
        eq("sewn by the member", x.member(0, 0), 5);
        eq("cloth is taken for these alone", x.cloth(0, 0), 94);
        startWith(x, 1, "5a");
        eq("exactly as many as there are", x.sew(1, 5), 5);
    }

    /** "as far as the cloth lasts ..; a patch for which there is no cloth ends it." */
    private static void sewAsFarAsTheClothLasts() {
        QuiltGuild x = framed(1, "(aabaa)");
        eq("no cloth", x.sew(0, 5), 0);
        x.give(0, 0, 1);
        eq("the last piece", x.sew(0, 5), 1);
        x.give(0, 0, 9);
        eq("the one without cloth ends it, not those behind it", x.sew(0, 5), 1);
        eq("it is still the next one", x.sew(0, 5), 0);
        x.give(0, 1, 1);
        eq("then it goes on", x.sew(0, 99), 3);
        eq("stock of a", x.cloth(0, 0), 10 - 4);
        eq("stock of b", x.cloth(1, 0), 0);
        startWith(x, 1, "9a");
        eq("exactly as far as the cloth lasts", x.sew(1, 6), 6);
        eq("no stock", x.cloth(0, 0), 0);
        eq("no more", x.sew(1, 1), 0);
        eq("who gave it does not matter", x.member(0, 0), 11);
    }

    /** "The member on turn sews the next patches, one after the other" */
    private static void sewByTheMemberOnTurn() {
        QuiltGuild x = framed(3, "9a");
        x.give(2, 0, 99);
        int[] wanted = {1, 2, 1, 3, 9};
        int[] by = {0, 0, 0};
        for (int i = 0; i < wanted.length; i++) {
            int done = x.sew(0, wanted[i]);
            by[i % 3] += done;
            for (int m = 0; m < 3; m++) {
                eq("behind " + i + ", sewn by " + m, x.member(m, 0), by[m]);
            }
        }
        eq("of the price, 0", x.wouldGet(0, 0, 9), 4);
        eq("of the price, 1", x.wouldGet(0, 1, 9), 4);
        eq("of the price, 2", x.wouldGet(0, 2, 9), 1);
    }

    // ---- takeApart

    /** "the cloth of the patches that are sewn becomes scraps, and the frame becomes empty" "Returns how many .." */
    private static void takeApart() {
        QuiltGuild x = framed(1, "(aabc)");
        eq("none was sewn", x.takeApart(0), 0);
        eq("no scraps", x.about(7), 0);
        CHECKS.state("empty now", () -> x.takeApart(0));
        x.give(0, 0, 9);
        x.give(0, 1, 9);
        x.give(0, 2, 9);
        x.start(0);
        x.sew(0, 3);
        eq("three were sewn", x.takeApart(0), 3);
        eq("scraps of a", x.cloth(0, 3), 2);
        eq("scraps of b", x.cloth(1, 3), 1);
        eq("none of what was not sewn", x.cloth(2, 3), 0);
        eq("in no quilt", x.cloth(0, 2), 0);
        eq("not in the stock", x.cloth(0, 0), 7);
        eq("the frame is empty", x.frame(0, 0), 0);
        x.start(0);
        x.sew(0, 4);
        eq("a finished one", x.takeApart(0), 4);
        eq("scraps of a in all", x.cloth(0, 3), 4);
        eq("it was not raffled", x.about(3), 0);
        eq("sewn so far", x.member(0, 0), 7);
    }

    private static void aNewQuiltBeginsAnew() {
        QuiltGuild x = framed(2, "4a");
        x.give(0, 0, 99);
        x.sew(0, 3);
        x.takeApart(0);
        x.start(0);
        eq("none is sewn", x.frame(0, 2), 0);
        x.sew(0, 3);
        x.sew(0, 1);
        eq("what 0 sewed of the one before does not count", x.wouldGet(0, 0, 4), 1);
        eq("what 1 sewed counts", x.wouldGet(0, 1, 4), 3);
        x.raffle(0, 0);
        x.start(0);
        x.sew(0, 4);
        eq("what 1 sewed of the raffled one does not count", x.wouldGet(0, 1, 4), 4);
        eq("what 0 sewed of it neither", x.wouldGet(0, 0, 4), 0);
    }

    // ---- raffle

    /** "price: 0 to 9999 pence" "Returns the number of its patches." "the frame becomes empty" */
    private static void raffle() {
        QuiltGuild x = framed(1, "(ab)");
        x.give(0, 0, 99);
        x.give(0, 1, 99);
        x.sew(0, 2);
        eq("the lowest price", x.raffle(0, 0), 2);
        eq("no pence", x.member(0, 1), 0);
        eq("empty", x.frame(0, 0), 0);
        eq("the cloth is in the quilt that was raffled", x.cloth(0, 2), 1);
        eq("it is not in scraps", x.about(7), 0);
        CHECKS.state("it is not raffled twice", () -> x.raffle(0, 0));
        startWith(x, 2, "8a");
        x.sew(2, 8);
        eq("the highest price", x.raffle(2, 9999), 8);
        eq("all of it", x.member(0, 1), 9999);
        startWith(x, 2, "8a");
        x.sew(2, 8);
        CHECKS.argument("one less", () -> x.raffle(2, -1));
        CHECKS.argument("one more", () -> x.raffle(2, 10000));
        eq("once more", x.raffle(2, 9999), 8);
        eq("all of both", x.member(0, 1), 19998);
        eq("all raffles", x.about(5), 19998);
    }

    /** "Raffles a finished quilt" "if the frame is empty, or not all patches are sewn" */
    private static void raffleNeedsAFinishedQuilt() {
        QuiltGuild x = with(1);
        CHECKS.state("an empty frame", () -> x.raffle(0, 5));
        x.give(0, 0, 99);
        for (int patches = 1; patches <= 9; patches++) {
            startWith(x, 0, patches == 1 ? "a" : patches + "a");
            for (int sewn = 0; sewn < patches; sewn++) {
                CHECKS.state(sewn + " of " + patches, () -> x.raffle(0, 5));
                x.sew(0, 1);
            }
            eq("all of them", x.raffle(0, 5), patches);
        }
        startWith(x, 1, "2a");
        startWith(x, 2, "2a");
        x.sew(1, 2);
        CHECKS.state("another one is finished", () -> x.raffle(2, 5));
        eq("this one is", x.raffle(1, 5), 2);
    }

    // ---- returnCloth

    /** "Returns how many pieces are returned to members." */
    private static void returnCloth() {
        QuiltGuild x = with(5);
        eq("no stock", x.returnCloth(), 0);
        x.give(4, 4, 1);
        eq("a single piece", x.returnCloth(), 1);
        x.undo();
        x.undo();
        for (int m = 0; m < 5; m++) {
            x.give(m, m, 99);
            x.give(m, 5, 1);
        }
        startWith(x, 0, "f");
        x.sew(0, 1);
        eq("five colours whole, the sixth becomes scraps", x.returnCloth(), 5 * 99);
        eq("left over of the sixth", x.cloth(5, 3), 4);
        eq("sewn ones stay", x.cloth(5, 2), 1);
        eq("no stock any more", x.returnCloth(), 0);
        for (int m = 0; m < 5; m++) {
            eq("returned to " + m, x.member(m, 3), 99);
        }
    }

    /** The stock and the gifts of 512 calls are so great that their product is greater than an int. */
    private static void returnOfGreatStocks() {
        QuiltGuild x = with(2);
        for (int i = 0; i < 480; i++) {
            x.give(i % 2, 0, 99);
        }
        eq("a great stock", x.cloth(0, 0), 47520);
        eq("returned whole", x.returnCloth(), 47520);
        eq("a half to 0", x.member(0, 3), 23760);
        eq("a half to 1", x.member(1, 3), 23760);
        eq("nothing is left over", x.cloth(0, 3), 0);
        x.give(1, 0, 99);
        eq("99 * 23760 / 47619 and 99 * 23859 / 47619", x.returnCloth(), 49 + 49);
        eq("left over", x.cloth(0, 3), 1);
    }

    // ---- actions and undo

    private static final Call[] ACTIONS = {
        QuiltGuild::addMember, x -> x.give(2, 5, 3), x -> x.start(2), x -> x.recolour(0, 0, 1), x -> x.sew(0, 1),
        x -> x.takeApart(0), x -> x.raffle(1, 10), QuiltGuild::returnCloth,
    };

    /** The frame 0 not sewn, the frame 1 finished, the frame 2 empty: each action is possible, and 8 are done. */
    private static QuiltGuild ready() {
        QuiltGuild x = with(3);
        x.give(0, 0, 3);
        x.give(1, 5, 2);
        type(x, "(af)");
        x.start(0);
        x.start(1);
        x.sew(1, 2);
        return x;
    }

    /** "Each call of one of them that does not throw an exception is an action" "Before each action, the state .." */
    private static void eachCallIsAnAction() {
        String before = all(ready());
        for (int i = 0; i < ACTIONS.length; i++) {
            QuiltGuild x = ready();
            ACTIONS[i].on(x);
            CHECKS.holds("the action " + i + " changes something", !all(x).equals(before));
            eq("the action " + i + " is remembered", x.undo(), 8);
            CHECKS.holds("it is taken back, " + i, all(x).equals(before));
            eq("and no more than it, " + i, x.undo(), 7);
            eq("the sewn ones are taken back next", x.frame(1, 2), 0);
        }
    }

    /** "also if nothing becomes different" */
    private static void alsoIfNothingBecomesDifferent() {
        QuiltGuild x = framed(1, "(ab)");
        x.undo();
        x.undo();
        x.addMember();
        x.start(0);
        String before = all(x);
        x.returnCloth();
        x.recolour(0, 1, 1);
        x.recolour(0, 4, 5);
        x.sew(0, 9);
        CHECKS.holds("nothing has become different", all(x).equals(before));
        for (int left = 5; left >= 2; left--) {
            eq("it is remembered", x.undo(), left);
        }
        CHECKS.holds("still nothing", all(x).equals(before));
        eq("start is taken back", x.undo(), 1);
        eq("it was there", x.frame(0, 0), 0);
        eq("addMember is taken back", x.undo(), 0);
        CHECKS.state("no more", x::undo);
    }

    /** What does not change the state, and what was refused, is not remembered. */
    private static void whatIsNoAction() {
        QuiltGuild x = framed(1, "(ab)");
        String before = all(x);
        x.append('x');
        x.errorPosition();
        x.clearText();
        x.append('a');
        x.lacks(7, 0);
        x.canFinish();
        x.wouldGet(0, 0, 0);
        x.becomes(0, 0);
        x.runScript(1, 2001);
        x.runScript(1, 0);
        x.simulate(1, 99);
        x.save(0);
        x.save(1);
        CHECKS.argument("refused", () -> x.give(0, 0, 0));
        CHECKS.bounds("refused", () -> x.give(1, 0, 1));
        CHECKS.state("refused", () -> x.start(0));
        CHECKS.state("refused", () -> x.recolour(1, 0, 1));
        CHECKS.argument("refused", () -> x.sew(0, 0));
        CHECKS.state("refused", () -> x.takeApart(2));
        CHECKS.state("refused", () -> x.raffle(0, 0));
        CHECKS.holds("the state is the same", all(x).equals(before));
        eq("start was the last action", x.undo(), 1);
        eq("the frame is empty", x.frame(0, 0), 0);
        eq("addMember was the one before", x.undo(), 0);
        CHECKS.state("refused", x::undo);
        eq("no members", x.about(0), 0);
    }

    /** "At most 14 states are remembered; when one more is remembered, the oldest one is forgotten." */
    private static void atMost14StatesAreRemembered() {
        for (int actions = 0; actions <= 30; actions++) {
            QuiltGuild x = with(1);
            x.save(0);
            x.restore(0);
            for (int i = 0; i < actions; i++) {
                x.give(0, 0, 1);
            }
            int remembered = Math.min(actions, MOST_REMEMBERED);
            for (int left = remembered - 1; left >= 0; left--) {
                eq("still remembered of " + actions, x.undo(), left);
                eq("the state of " + actions, x.cloth(0, 0), actions - remembered + left);
            }
            CHECKS.state("none is remembered of " + actions, x::undo);
            eq("the oldest one that is remembered", x.cloth(0, 0), actions - remembered);
        }
    }

    /** Actions and undo in turns, so that the places of the states are used again in all ways. */
    private static void theRingOfStates() {
        for (int back = 1; back <= MOST_REMEMBERED; back++) {
            QuiltGuild x = with(1);
            int stock = 0;
            int remembered = 1;
            for (int round = 0; round < 5; round++) {
                for (int i = 0; i < back + 2; i++) {
                    x.give(0, 0, 1);
                    stock++;
                    remembered = Math.min(remembered + 1, MOST_REMEMBERED);
                }
                for (int i = 0; i < back; i++) {
                    remembered--;
                    stock--;
                    eq("remembered, back by " + back, x.undo(), remembered);
                    eq("stock, back by " + back, x.cloth(0, 0), stock);
                }
            }
        }
    }

    /** "(undo is none)": it takes back the action before, and never an undo. */
    private static void undoIsNoAction() {
        QuiltGuild x = with(1);
        x.give(0, 0, 1);
        x.give(0, 0, 2);
        x.give(0, 0, 4);
        eq("one", x.undo(), 3);
        eq("without the last", x.cloth(0, 0), 3);
        eq("two", x.undo(), 2);
        eq("without the two last", x.cloth(0, 0), 1);
        x.give(0, 0, 8);
        eq("another way", x.cloth(0, 0), 9);
        eq("back to where it began", x.undo(), 2);
        eq("not the way that was taken back", x.cloth(0, 0), 1);
        eq("further back", x.undo(), 1);
        eq("nothing was given", x.cloth(0, 0), 0);
        eq("the first one", x.undo(), 0);
        CHECKS.state("none is remembered", x::undo);
        x.addMember();
        eq("it goes on", x.undo(), 0);
    }

    /** "Takes back the last action that is remembered.", through all kinds of actions to the beginning. */
    private static void undoTakesBackAll() {
        int actions = 13;
        String[] states = new String[actions + 1];
        for (int done = 0; done <= actions; done++) {
            states[done] = all(thirteen(done));
        }
        for (int back = 1; back <= actions; back++) {
            QuiltGuild x = thirteen(actions);
            for (int i = 1; i <= back; i++) {
                eq("still remembered", x.undo(), actions - i);
            }
            CHECKS.holds("the state " + back + " actions before", all(x).equals(states[actions - back]));
        }
    }

    private static QuiltGuild thirteen(int done) {
        Call[] calls = {QuiltGuild::addMember, QuiltGuild::addMember, x -> x.give(0, 0, 5), x -> x.give(1, 1, 4),
            x -> x.start(0), x -> x.start(1), x -> x.recolour(0, 0, 1), x -> x.sew(0, 2), x -> x.sew(1, 3),
            x -> x.sew(0, 1), x -> x.raffle(0, 10), x -> x.takeApart(1), QuiltGuild::returnCloth};
        QuiltGuild x = new QuiltGuild();
        type(x, "(aba)");
        for (int i = 0; i < done; i++) {
            calls[i].on(x);
        }
        return x;
    }

    /** "the state, which consists of everything but the text and the save slots" */
    private static void everythingButTextAndSlots() {
        QuiltGuild x = with(1);
        x.give(0, 0, 1);
        x.append('(');
        x.save(0);
        x.give(0, 0, 2);
        x.append('a');
        x.save(1);
        x.undo();
        x.undo();
        eq("the text is not taken back", x.append(')'), 3);
        eq("it is a pattern", x.errorPosition(), NONE);
        x.undo();
        eq("nobody is left", x.about(0), 0);
        eq("the slot 0 is not taken back", x.restore(0), 1);
        eq("its stock", x.cloth(0, 0), 1);
        eq("the slot 1 is not taken back", x.restore(1), 1);
        eq("its stock", x.cloth(0, 0), 3);
        eq("the text is not restored", x.clearText(), 3);
    }

    /** "An object is used for at most 512 calls": with the dearest ones, all are answered. */
    private static void as512Calls() {
        QuiltGuild x = framed(1, "28^28a");
        x.save(0);
        for (int call = 11; call <= 512; call++) {
            switch (call % 4) {
                case 3: eq("recolour", x.recolour(0, 0, 1), 256); break;
                case 0: eq("a script", x.runScript(4, 6001600160016001L), NONE); break;
                case 1: eq("pieces", x.frame(0, 5), 1); break;
                default: eq("undo", x.undo(), 2); break;
            }
        }
    }
}
