/**
 * "If several exceptions apply to a call, the one that its description names first is thrown. A call that throws an
 * exception changes nothing." Each method that throws: the last values that are taken and the first ones that are
 * refused on either side, alone and with all that its description names behind them.
 */
public final class RefusalTest extends Guilds {
    private static final Recipe[] ALL = {FRESH, YOUNG, BUSY, FULL};
    private static final int[] NO_FRAMES = {-1, 3, 4, MIN, MAX, 256, -256};
    private static final int[] NO_COLOURS = {-1, 6, 7, MIN, MAX, 'a', 256};
    private static final int[] NO_AMOUNTS = {0, -1, 100, 101, MIN, MAX, 257};
    private static final int[] NO_PRICES = {-1, 10000, 10001, MIN, MAX, 65536};

    public static void main(String[] args) {
        append();
        about();
        member();
        cloth();
        frame();
        patch();
        count();
        same();
        addMember();
        give();
        start();
        recolour();
        sew();
        takeApart();
        raffle();
        undo();
        lacks();
        wouldGet();
        becomes();
        lastOnesTaken();
        CHECKS.close("RefusalTest");
    }

    private static void refusedBy(String what, Recipe[] recipes, Class<?> due, Call call) {
        for (int i = 0; i < recipes.length; i++) {
            refused(what + ", guild " + i, recipes[i], due, call);
        }
    }

    private static void append() {
        int[] wrong = {-1, 256, MIN, MAX, 256 + 'a', -159};
        for (int c : wrong) {
            refusedBy("append " + c, ALL, ARGUMENT, x -> x.append(c));
        }
        int[] right = {0, 'a', ')', 255};
        for (int c : right) {
            refused("append to a full text " + c, FULL, STATE, x -> x.append(c));
        }
    }

    private static void about() {
        int[] wrong = {-1, 9, 10, MIN, MAX, 256};
        for (int what : wrong) {
            refusedBy("about " + what, ALL, ARGUMENT, x -> x.about(what));
        }
    }

    private static int[] noMembers(int members) {
        return new int[] {-1, members, members + 1, 5, 6, MIN, MAX, 256};
    }

    private static final int[] MEMBERS = {0, 1, 3, 5};

    private static void member() {
        for (int i = 0; i < ALL.length; i++) {
            for (int m : noMembers(MEMBERS[i])) {
                refused("member " + m, ALL[i], BOUNDS, x -> x.member(m, 0));
                refused("member, then what, " + m, ALL[i], BOUNDS, x -> x.member(m, 4));
                refused("member, then what, " + m, ALL[i], BOUNDS, x -> x.member(m, -1));
            }
        }
        int[] wrong = {-1, 4, 5, MIN, MAX};
        for (int what : wrong) {
            refused("member, what " + what, YOUNG, ARGUMENT, x -> x.member(0, what));
            refused("member, what " + what, BUSY, ARGUMENT, x -> x.member(2, what));
            refused("member, what " + what, FULL, ARGUMENT, x -> x.member(4, what));
        }
    }

    private static void cloth() {
        for (int c : NO_COLOURS) {
            refusedBy("cloth " + c, ALL, BOUNDS, x -> x.cloth(c, 0));
            refusedBy("cloth, then what, " + c, ALL, BOUNDS, x -> x.cloth(c, 5));
            refusedBy("cloth, then what, " + c, ALL, BOUNDS, x -> x.cloth(c, -1));
        }
        int[] wrong = {-1, 5, 6, MIN, MAX};
        for (int what : wrong) {
            refusedBy("cloth, what " + what, ALL, ARGUMENT, x -> x.cloth(0, what));
            refusedBy("cloth, what " + what, ALL, ARGUMENT, x -> x.cloth(5, what));
        }
    }

    private static void frame() {
        for (int f : NO_FRAMES) {
            refusedBy("frame " + f, ALL, BOUNDS, x -> x.frame(f, 0));
            refusedBy("frame, then what, " + f, ALL, BOUNDS, x -> x.frame(f, 7));
            refusedBy("frame, then what, " + f, ALL, BOUNDS, x -> x.frame(f, -1));
        }
        int[] wrong = {-1, 7, 8, MIN, MAX};
        for (int what : wrong) {
            refusedBy("frame, what " + what, ALL, ARGUMENT, x -> x.frame(0, what));
            refusedBy("frame, what " + what, ALL, ARGUMENT, x -> x.frame(2, what));
        }
    }

    private static void patch() {
        for (int f : NO_FRAMES) {
            refusedBy("patch " + f, ALL, BOUNDS, x -> x.patch(f, 0, 0));
            refusedBy("patch, then x, " + f, ALL, BOUNDS, x -> x.patch(f, -1, 0));
            refusedBy("patch, then y, " + f, ALL, BOUNDS, x -> x.patch(f, 0, -1));
        }
        int[] wrong = {-1, -2, MIN};
        for (int place : wrong) {
            for (int f = 0; f < 3; f++) {
                int frame = f;
                refusedBy("patch, column " + place, ALL, ARGUMENT, x -> x.patch(frame, place, 0));
                refusedBy("patch, row " + place, ALL, ARGUMENT, x -> x.patch(frame, 0, place));
                refusedBy("patch, both " + place, ALL, ARGUMENT, x -> x.patch(frame, place, place));
                refusedBy("patch, column, no such row " + place, ALL, ARGUMENT, x -> x.patch(frame, place, MAX));
                refusedBy("patch, row, no such column " + place, ALL, ARGUMENT, x -> x.patch(frame, MAX, place));
            }
        }
    }

    private static void count() {
        for (int f : NO_FRAMES) {
            refusedBy("count " + f, ALL, BOUNDS, x -> x.count(f, 0, false));
            refusedBy("count, then colour, " + f, ALL, BOUNDS, x -> x.count(f, 6, true));
        }
        for (int c : NO_COLOURS) {
            refusedBy("count, all of " + c, ALL, BOUNDS, x -> x.count(0, c, false));
            refusedBy("count, sewn of " + c, ALL, BOUNDS, x -> x.count(2, c, true));
        }
    }

    private static void same() {
        for (int f : NO_FRAMES) {
            refusedBy("same " + f, ALL, BOUNDS, x -> x.same(f, 0) ? 1 : 0);
            refusedBy("same, then how, " + f, ALL, BOUNDS, x -> x.same(f, 3) ? 1 : 0);
            refusedBy("same, then how, " + f, ALL, BOUNDS, x -> x.same(f, -1) ? 1 : 0);
        }
        int[] wrong = {-1, 3, 4, MIN, MAX};
        for (int how : wrong) {
            refusedBy("same, how " + how, ALL, ARGUMENT, x -> x.same(0, how) ? 1 : 0);
            refusedBy("same, how " + how, ALL, ARGUMENT, x -> x.same(2, how) ? 1 : 0);
        }
    }

    private static void addMember() {
        refused("addMember to five", FULL, STATE, QuiltGuild::addMember);
    }

    private static void give() {
        for (int i = 0; i < ALL.length; i++) {
            for (int m : noMembers(MEMBERS[i])) {
                refused("give, member " + m, ALL[i], BOUNDS, x -> x.give(m, 0, 1));
                refused("give, member, then n, " + m, ALL[i], BOUNDS, x -> x.give(m, 5, 0));
                refused("give, member, then colour and n, " + m, ALL[i], BOUNDS, x -> x.give(m, 6, 100));
            }
        }
        for (int c : NO_COLOURS) {
            refusedBy("give, colour " + c, ALL, BOUNDS, x -> x.give(0, c, 1));
            refusedBy("give, colour, then n, " + c, ALL, BOUNDS, x -> x.give(0, c, 0));
            refusedBy("give, colour, then n, " + c, ALL, BOUNDS, x -> x.give(0, c, 100));
        }
        for (int n : NO_AMOUNTS) {
            refused("give, n " + n, YOUNG, ARGUMENT, x -> x.give(0, 0, n));
            refused("give, n " + n, BUSY, ARGUMENT, x -> x.give(2, 5, n));
            refused("give, n " + n, FULL, ARGUMENT, x -> x.give(4, 5, n));
        }
    }

    private static void start() {
        for (int f : NO_FRAMES) {
            refusedBy("start " + f, ALL, BOUNDS, x -> x.start(f));
        }
        for (int f = 0; f < 3; f++) {
            int frame = f;
            refused("start without a text", FRESH, STATE, x -> x.start(frame));
            refused("start with a text that is no pattern", BUSY, STATE, x -> x.start(frame));
            refused("start on a frame that is used", FULL, STATE, x -> x.start(frame));
        }
        refused("start on a frame that no patch is sewn of", YOUNG, STATE, x -> x.start(0));
    }

    private static void recolour() {
        for (int f : NO_FRAMES) {
            refusedBy("recolour " + f, ALL, BOUNDS, x -> x.recolour(f, 0, 1));
            refusedBy("recolour, all wrong, " + f, ALL, BOUNDS, x -> x.recolour(f, 6, -1));
        }
        for (int c : NO_COLOURS) {
            for (int f = 0; f < 3; f++) {
                int frame = f;
                refusedBy("recolour, a is " + c, ALL, BOUNDS, x -> x.recolour(frame, c, 0));
                refusedBy("recolour, b is " + c, ALL, BOUNDS, x -> x.recolour(frame, 5, c));
                refusedBy("recolour, both are " + c, ALL, BOUNDS, x -> x.recolour(frame, c, c));
            }
        }
        for (int b = 0; b < 6; b++) {
            int colour = b;
            refused("recolour an empty frame", FRESH, STATE, x -> x.recolour(0, 0, colour));
            refused("recolour an empty frame", BUSY, STATE, x -> x.recolour(2, colour, 5));
            refused("recolour what is partly sewn", BUSY, STATE, x -> x.recolour(0, 0, colour));
            refused("recolour what has one sewn patch", FULL, STATE, x -> x.recolour(1, colour, 0));
            refused("recolour what is finished", FULL, STATE, x -> x.recolour(2, 5, colour));
        }
    }

    private static void sew() {
        for (int f : NO_FRAMES) {
            refusedBy("sew " + f, ALL, BOUNDS, x -> x.sew(f, 1));
            refusedBy("sew, then n, " + f, ALL, BOUNDS, x -> x.sew(f, 0));
            refusedBy("sew, then n, " + f, ALL, BOUNDS, x -> x.sew(f, 100));
        }
        for (int n : NO_AMOUNTS) {
            refusedBy("sew, n " + n, ALL, ARGUMENT, x -> x.sew(0, n));
            refusedBy("sew, n, then the frame, " + n, new Recipe[] {FRESH, YOUNG, BUSY}, ARGUMENT, x -> x.sew(2, n));
        }
        Recipe nobody = () -> framed(0, "(ab)");
        for (int n = 1; n <= 99; n += 98) {
            int patches = n;
            refused("sew, empty and nobody", FRESH, STATE, x -> x.sew(0, patches));
            refused("sew, empty", YOUNG, STATE, x -> x.sew(1, patches));
            refused("sew, empty, the last", BUSY, STATE, x -> x.sew(2, patches));
            refused("sew, nobody", nobody, STATE, x -> x.sew(0, patches));
            refused("sew, nobody, empty", nobody, STATE, x -> x.sew(1, patches));
        }
        refused("sew, nobody, then n", nobody, ARGUMENT, x -> x.sew(0, 0));
    }

    private static void takeApart() {
        for (int f : NO_FRAMES) {
            refusedBy("takeApart " + f, ALL, BOUNDS, x -> x.takeApart(f));
        }
        for (int f = 0; f < 3; f++) {
            int frame = f;
            refused("takeApart an empty frame", FRESH, STATE, x -> x.takeApart(frame));
        }
        refused("takeApart an empty frame", YOUNG, STATE, x -> x.takeApart(1));
        refused("takeApart an emptied frame", BUSY, STATE, x -> x.takeApart(2));
    }

    private static void raffle() {
        for (int f : NO_FRAMES) {
            refusedBy("raffle " + f, ALL, BOUNDS, x -> x.raffle(f, 5));
            refusedBy("raffle, then price, " + f, ALL, BOUNDS, x -> x.raffle(f, -1));
            refusedBy("raffle, then price, " + f, ALL, BOUNDS, x -> x.raffle(f, 10000));
        }
        for (int price : NO_PRICES) {
            for (int f = 0; f < 3; f++) {
                int frame = f;
                refusedBy("raffle, price " + price, ALL, ARGUMENT, x -> x.raffle(frame, price));
            }
        }
        for (int price = 0; price <= 9999; price += 9999) {
            int pence = price;
            refused("raffle an empty frame", FRESH, STATE, x -> x.raffle(0, pence));
            refused("raffle an emptied frame", BUSY, STATE, x -> x.raffle(2, pence));
            refused("raffle what is not sewn", YOUNG, STATE, x -> x.raffle(0, pence));
            refused("raffle what lacks one patch", BUSY, STATE, x -> x.raffle(0, pence));
            refused("raffle what lacks one of two", FULL, STATE, x -> x.raffle(1, pence));
        }
    }

    private static void undo() {
        refused("undo at first", FRESH, STATE, QuiltGuild::undo);
        refused("undo behind the first one", () -> {
            QuiltGuild x = with(1);
            x.undo();
            return x;
        }, STATE, QuiltGuild::undo);
        refused("undo behind 14", () -> {
            QuiltGuild x = busy();
            for (int i = 0; i < 14; i++) {
                x.undo();
            }
            return x;
        }, STATE, QuiltGuild::undo);
        refused("undo behind restore", () -> {
            QuiltGuild x = busy();
            x.restore(1);
            return x;
        }, STATE, QuiltGuild::undo);
    }

    private static void lacks() {
        for (int c : NO_COLOURS) {
            refusedBy("lacks, colour " + c, ALL, BOUNDS, x -> x.lacks(7, c));
            refusedBy("lacks, colour, then set, " + c, ALL, BOUNDS, x -> x.lacks(8, c));
            refusedBy("lacks, colour, then set, " + c, ALL, BOUNDS, x -> x.lacks(-1, c));
        }
        int[] wrong = {-1, 8, 9, 15, MIN, MAX};
        for (int set : wrong) {
            refusedBy("lacks, set " + set, ALL, ARGUMENT, x -> x.lacks(set, 0));
            refusedBy("lacks, set " + set, ALL, ARGUMENT, x -> x.lacks(set, 5));
        }
    }

    private static void wouldGet() {
        for (int f : NO_FRAMES) {
            refusedBy("wouldGet, frame " + f, ALL, BOUNDS, x -> x.wouldGet(f, 0, 5));
            refusedBy("wouldGet, frame, then all, " + f, ALL, BOUNDS, x -> x.wouldGet(f, -1, -1));
        }
        for (int i = 0; i < ALL.length; i++) {
            for (int m : noMembers(MEMBERS[i])) {
                refused("wouldGet, member " + m, ALL[i], BOUNDS, x -> x.wouldGet(0, m, 5));
                refused("wouldGet, member, then price, " + m, ALL[i], BOUNDS, x -> x.wouldGet(2, m, -1));
                refused("wouldGet, member, then price, " + m, ALL[i], BOUNDS, x -> x.wouldGet(2, m, 10000));
            }
        }
        for (int price : NO_PRICES) {
            refused("wouldGet, price " + price, YOUNG, ARGUMENT, x -> x.wouldGet(0, 0, price));
            refused("wouldGet, price of an empty frame " + price, BUSY, ARGUMENT, x -> x.wouldGet(2, 2, price));
            refused("wouldGet, price of a finished one " + price, FULL, ARGUMENT, x -> x.wouldGet(2, 4, price));
        }
    }

    private static void becomes() {
        for (int f : NO_FRAMES) {
            refusedBy("becomes, f " + f, ALL, BOUNDS, x -> x.becomes(f, 0));
            refusedBy("becomes, g " + f, ALL, BOUNDS, x -> x.becomes(2, f));
            refusedBy("becomes, both " + f, ALL, BOUNDS, x -> x.becomes(f, f));
        }
    }

    /** The values just inside of what is refused above, by the guild that has the most. */
    private static void lastOnesTaken() {
        taken("append 0", YOUNG, x -> x.append(0), 5);
        taken("append 255", YOUNG, x -> x.append(255), 5);
        taken("about 0", FULL, x -> x.about(0), 5);
        taken("about 8", FULL, x -> x.about(8), 0);
        taken("member 0 0", FULL, x -> x.member(0, 0), 1);
        taken("member 4 3", FULL, x -> x.member(4, 3), 0);
        taken("cloth 0 0", FULL, x -> x.cloth(0, 0), 2);
        taken("cloth 5 4", FULL, x -> x.cloth(5, 4), 0);
        taken("frame 0 0", FULL, x -> x.frame(0, 0), 2);
        taken("frame 2 6", FULL, x -> x.frame(2, 6), 1);
        taken("patch 0 0 0", FULL, x -> x.patch(0, 0, 0), 0);
        taken("patch 2 0 1", FULL, x -> x.patch(2, 0, 1), 3);
        taken("patch 2 max max", FULL, x -> x.patch(2, MAX, MAX), NONE);
        taken("count 0 0", FULL, x -> x.count(0, 0, false), 1);
        taken("count 2 5", FULL, x -> x.count(2, 5, true), 0);
        taken("same 0 0", FULL, x -> x.same(0, 0) ? 1 : 0, 0);
        taken("same 2 2", FULL, x -> x.same(2, 2) ? 1 : 0, 0);
        taken("addMember, the fourth", BUSY, QuiltGuild::addMember, 3);
        taken("addMember, the first", FRESH, QuiltGuild::addMember, 0);
        taken("give 0 0 1", FULL, x -> x.give(0, 0, 1), 3);
        taken("give 4 5 99", FULL, x -> x.give(4, 5, 99), 106);
        taken("start 2", YOUNG, x -> x.start(2), 2);
        taken("recolour 0 0 0", FULL, x -> x.recolour(0, 0, 0), 0);
        taken("recolour 0 5 0", FULL, x -> x.recolour(0, 5, 0), 1);
        taken("sew 0 1", FULL, x -> x.sew(0, 1), 1);
        taken("sew 2 99", FULL, x -> x.sew(2, 99), 0);
        taken("takeApart 0", FULL, x -> x.takeApart(0), 0);
        taken("takeApart 2", FULL, x -> x.takeApart(2), 2);
        taken("raffle 2 0", FULL, x -> x.raffle(2, 0), 2);
        taken("raffle 2 9999", FULL, x -> x.raffle(2, 9999), 2);
        taken("returnCloth", FRESH, QuiltGuild::returnCloth, 0);
        taken("undo, one of three", YOUNG, QuiltGuild::undo, 2);
        taken("undo, one of 14", BUSY, QuiltGuild::undo, 13);
        taken("lacks 0 0", FULL, x -> x.lacks(0, 0), 0);
        taken("lacks 7 5", FULL, x -> x.lacks(7, 5), 0);
        taken("wouldGet 0 0 0", FULL, x -> x.wouldGet(0, 0, 0), NONE);
        taken("wouldGet 2 4 9999", FULL, x -> x.wouldGet(2, 4, 9999), 0);
        taken("becomes 0 2", FULL, x -> x.becomes(0, 2), NONE);
        taken("becomes 2 0", FULL, x -> x.becomes(2, 0), NONE);
        taken("runScript 1 0", FULL, x -> x.runScript(1, 0), 0);
        taken("runScript 4, 16 digits", FULL, x -> x.runScript(4, 9999999999999999L), 0);
        taken("simulate, the smallest seed", FRESH, x -> x.simulate(Long.MIN_VALUE, 1), 0);
        taken("simulate, the greatest seed", FRESH, x -> x.simulate(Long.MAX_VALUE, 99), 0);
        taken("save 0", FULL, x -> x.save(0), 5);
        taken("save 1", FULL, x -> x.save(1), 5);
        taken("restore 0", FULL, x -> x.restore(0), 5);
        taken("restore 1", FULL, x -> x.restore(1), 5);
    }

    private static void taken(String what, Recipe recipe, Call call, long due) {
        eq(what, call.on(recipe.make()), due);
    }
}
