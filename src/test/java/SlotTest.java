/** Promises 27 and 28 of ../shared/DOC.md (save slots), sentence by sentence. */
public final class SlotTest extends Guilds {
    public static void main(String[] args) {
        numberOfMembers();
        twoSlots();
        thePresentState();
        savedOver();
        replacesTheState();
        forgetsAllRememberedStates();
        theSlotKeepsIt();
        theTextStays();
        nothingHasBeenSaved();
        saveChangesNothingElse();
        restoreIsNoAction();
        CHECKS.close("SlotTest");
    }

    /** "Returns the number of members." "Returns the number of members then." */
    private static void numberOfMembers() {
        for (int members = 0; members <= 5; members++) {
            for (int slot = 0; slot <= 1; slot++) {
                QuiltGuild x = with(members);
                eq("saved with " + members, x.save(slot), members);
                eq("restored with " + members, x.restore(slot), members);
                if (members < 5) {
                    x.addMember();
                    eq("restored with as many as then", x.restore(slot), members);
                    eq("as many as then", x.about(0), members);
                    eq("the next one", x.addMember(), members);
                    eq("saved with one more", x.save(slot), members + 1);
                }
            }
        }
    }

    /** "slot: 0 or 1" */
    private static void twoSlots() {
        int[] wrong = {-1, 2, 3, MIN, MAX};
        for (int slot : wrong) {
            refused("save " + slot, BUSY, BOUNDS, x -> x.save(slot));
            refused("save first of all " + slot, FRESH, BOUNDS, x -> x.save(slot));
            refused("restore " + slot, FULL, BOUNDS, x -> x.restore(slot));
            refused("restore what is not there " + slot, FRESH, BOUNDS, x -> x.restore(slot));
        }
        QuiltGuild x = with(1);
        x.give(0, 0, 1);
        x.save(0);
        x.give(0, 0, 2);
        x.save(1);
        x.give(0, 0, 4);
        x.restore(0);
        eq("the slot 0", x.cloth(0, 0), 1);
        x.restore(1);
        eq("the slot 1", x.cloth(0, 0), 3);
        x.restore(0);
        eq("the slot 0 again", x.cloth(0, 0), 1);
        x.save(1);
        x.give(0, 0, 8);
        x.restore(1);
        eq("from one slot to the other", x.cloth(0, 0), 1);
    }

    /** "Stores the present state in a save slot.": all of it. */
    private static void thePresentState() {
        Recipe[] recipes = {FRESH, YOUNG, BUSY, FULL};
        for (Recipe recipe : recipes) {
            for (int slot = 0; slot <= 1; slot++) {
                String due = all(recipe.make());
                QuiltGuild x = recipe.make();
                x.save(slot);
                x.returnCloth();
                for (int f = 0; f < 3; f++) {
                    if (x.frame(f, 0) > 0) {
                        x.takeApart(f);
                    }
                }
                if (x.about(0) < 5) {
                    x.addMember();
                }
                x.give(0, 0, 9);
                CHECKS.holds("another state", !all(x).equals(due));
                x.restore(slot);
                CHECKS.holds("the state of then", all(x).equals(due));
            }
        }
        QuiltGuild x = framed(2, "4a");
        x.give(1, 0, 6);
        x.sew(0, 1);
        x.save(0);
        x.sew(0, 3);
        x.give(0, 0, 94);
        x.restore(0);
        eq("the turn of then", x.about(1), 1);
        x.sew(0, 2);
        x.sew(0, 1);
        eq("what 0 sewed then", x.wouldGet(0, 0, 4), 2);
        eq("what 1 sewed behind it", x.wouldGet(0, 1, 4), 2);
        eq("given by 1 alone", x.returnCloth(), 2);
        eq("returned to 1 alone", x.member(1, 3), 2);
        startWith(x, 1, "(ab)");
        x.recolour(1, 0, 5);
        x.save(1);
        x.recolour(1, 1, 5);
        shows("behind it", x, 1, "bf");
        x.restore(1);
        shows("the pattern of then", x, 1, "fb");
    }

    /** The slot holds what was stored last. */
    private static void savedOver() {
        for (int slot = 0; slot <= 1; slot++) {
            QuiltGuild x = with(1);
            x.save(slot);
            x.give(0, 0, 5);
            x.addMember();
            eq("saved over", x.save(slot), 2);
            x.give(0, 0, 1);
            eq("restored", x.restore(slot), 2);
            eq("the newer one", x.cloth(0, 0), 5);
            x.give(0, 0, 2);
            x.undo();
            x.save(slot);
            x.restore(slot);
            eq("saved behind undo", x.cloth(0, 0), 5);
        }
    }

    /** "Replaces the state by the one in a save slot" */
    private static void replacesTheState() {
        QuiltGuild x = new QuiltGuild();
        x.save(0);
        for (int i = 0; i < 5; i++) {
            x.addMember();
        }
        x.give(4, 5, 99);
        startWith(x, 2, "f");
        x.sew(2, 1);
        x.raffle(2, 9);
        startWith(x, 2, "f");
        eq("the first state of all", x.restore(0), 0);
        CHECKS.holds("nothing is left", all(x).equals(all(new QuiltGuild())));
        CHECKS.bounds("no member", () -> x.member(0, 0));
        x.addMember();
        for (int what = 0; what <= 3; what++) {
            eq("a new member has nothing, " + what, x.member(0, what), 0);
        }
        eq("the frame is empty", x.start(2), 1);
    }

    /** "and forgets all remembered states" */
    private static void forgetsAllRememberedStates() {
        int[] actions = {0, 1, 13, 14, 15, 29};
        for (int done : actions) {
            QuiltGuild x = with(1);
            x.save(1);
            for (int i = 0; i < done; i++) {
                x.give(0, 0, 1);
            }
            x.restore(1);
            CHECKS.state("behind " + done, x::undo);
            for (int i = 1; i <= 3; i++) {
                x.give(0, 0, 10);
            }
            eq("only what was done since", x.undo(), 2);
            eq("only what was done since", x.undo(), 1);
            eq("only what was done since", x.undo(), 0);
            eq("the state that was restored", x.cloth(0, 0), 0);
            eq("with its member", x.about(0), 1);
            CHECKS.state("no more", x::undo);
        }
        QuiltGuild x = with(1);
        x.save(0);
        x.restore(0);
        CHECKS.state("also if the state is the same", x::undo);
    }

    /** "The save slot keeps it." */
    private static void theSlotKeepsIt() {
        QuiltGuild x = busy();
        x.save(0);
        String due = all(busy());
        for (int round = 0; round < 3; round++) {
            x.restore(0);
            x.sew(0, 9);
            x.raffle(0, 99);
            x.takeApart(1);
            x.give(1, 1, 50);
            x.undo();
            x.returnCloth();
        }
        x.restore(0);
        CHECKS.holds("as it was saved", all(x).equals(due));
    }

    /** "the state, which consists of everything but the text and the save slots" */
    private static void theTextStays() {
        QuiltGuild x = with(1);
        type(x, "(ab");
        x.save(0);
        x.append(')');
        x.restore(0);
        eq("the text of now", x.errorPosition(), NONE);
        eq("a pattern", x.start(0), 2);
        eq("its length", x.clearText(), 4);
        x.restore(0);
        eq("an emptied one stays empty", x.clearText(), 0);
        eq("the frame of then", x.frame(0, 0), 0);
    }

    /** "if nothing has been saved in it" */
    private static void nothingHasBeenSaved() {
        for (int slot = 0; slot <= 1; slot++) {
            int other = slot;
            refused("nothing at all, " + slot, FRESH, STATE, x -> x.restore(other));
            refused("nothing in " + slot, () -> {
                QuiltGuild x = young();
                x.save(1 - other);
                return x;
            }, STATE, x -> x.restore(other));
            QuiltGuild x = with(1);
            x.save(slot);
            x.undo();
            eq("undo leaves the slot", x.restore(slot), 1);
        }
        refused("the slot 0 of a busy one", BUSY, STATE, x -> x.restore(0));
        refused("a refused save saves nothing", () -> {
            QuiltGuild x = young();
            CHECKS.bounds("no such slot", () -> x.save(2));
            return x;
        }, STATE, x -> x.restore(1));
    }

    /** save is in no section that changes the state, and is no action. */
    private static void saveChangesNothingElse() {
        QuiltGuild x = busy();
        String due = all(busy());
        x.save(0);
        x.save(1);
        CHECKS.holds("the state is the same", all(x).equals(due));
        eq("the text is the same", x.errorPosition(), 3);
        QuiltGuild saved = busy();
        QuiltGuild other = busy();
        saved.save(0);
        for (int left = 13; left >= 0; left--) {
            eq("all are still remembered", saved.undo(), left);
            other.undo();
            if (left % 6 == 0) {
                CHECKS.holds("the same states", all(saved).equals(all(other)));
            }
        }
        CHECKS.state("no more", saved::undo);
    }

    /** "restore is not an action." */
    private static void restoreIsNoAction() {
        QuiltGuild x = with(2);
        x.save(0);
        x.give(0, 0, 3);
        x.restore(0);
        CHECKS.state("it is not remembered", x::undo);
        eq("it is not taken back", x.cloth(0, 0), 0);
        x.give(0, 0, 4);
        x.restore(0);
        x.restore(0);
        CHECKS.state("nor are two", x::undo);
    }
}
