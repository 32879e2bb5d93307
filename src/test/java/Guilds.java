/** What the tests share: guilds made by recipes, and how all that can be found out of a guild is written down. */
abstract class Guilds {
    interface Recipe {
        QuiltGuild make();
    }

    interface Call {
        long on(QuiltGuild x);
    }

    static final Checks CHECKS = new Checks();
    static final int NONE = -9;
    static final int MIN = Integer.MIN_VALUE;
    static final int MAX = Integer.MAX_VALUE;
    static final Class<?> BOUNDS = IndexOutOfBoundsException.class;
    static final Class<?> ARGUMENT = IllegalArgumentException.class;
    static final Class<?> STATE = IllegalStateException.class;
    /** As long as a text may be, and still a pattern: 16 patches. */
    static final String LONGEST_PATTERN = "(".repeat(22) + "abcdefabcdefabcd" + ")".repeat(22);

    private static final int MOST_REMEMBERED = 14;

    static void eq(String what, long got, long due) {
        CHECKS.eq(what, got, due);
    }

    static void type(QuiltGuild x, String text) {
        x.clearText();
        for (int i = 0; i < text.length(); i++) {
            x.append(text.charAt(i));
        }
    }

    static int errorOf(String text) {
        QuiltGuild x = new QuiltGuild();
        type(x, text);
        return x.errorPosition();
    }

    static void error(String text, int due) {
        eq("errorPosition of " + text, errorOf(text), due);
    }

    static QuiltGuild with(int members) {
        QuiltGuild x = new QuiltGuild();
        for (int i = 0; i < members; i++) {
            x.addMember();
        }
        return x;
    }

    static int startWith(QuiltGuild x, int f, String text) {
        type(x, text);
        return x.start(f);
    }

    /** A guild with one pattern on the frame 0. */
    static QuiltGuild framed(int members, String text) {
        QuiltGuild x = with(members);
        startWith(x, 0, text);
        return x;
    }

    /** The patches of a frame as letters, the rows parted by slashes. */
    static String shown(QuiltGuild x, int f) {
        StringBuilder shown = new StringBuilder();
        int width = x.frame(f, 0);
        int height = x.frame(f, 1);
        for (int y = 0; y < height; y++) {
            shown.append(y == 0 ? "" : "/");
            for (int column = 0; column < width; column++) {
                shown.append((char) ('a' + x.patch(f, column, y)));
            }
        }
        return shown.toString();
    }

    static void shows(String what, QuiltGuild x, int f, String due) {
        String shown = shown(x, f);
        CHECKS.holds(what + ": the frame " + f + " shows " + shown + ", due is " + due, shown.equals(due));
    }

    static void layout(String text, String due) {
        shows(text, framed(0, text), 0, due);
    }

    // ---- guilds made by recipes

    /** One member, a pattern without sewn patches, few states remembered, nothing saved, a text that is a pattern. */
    static QuiltGuild young() {
        QuiltGuild x = with(1);
        x.give(0, 0, 5);
        startWith(x, 0, "(ab)");
        return x;
    }

    /**
     * Three members, the 0 on turn with the frame 0 partly sewn, the frame 1 finished by the members 0 and 1, the
     * frame 2 empty, a quilt raffled, scraps, the slot 1 saved, 14 states remembered, a text that is no pattern.
     */
    static QuiltGuild busy() {
        QuiltGuild x = with(3);
        x.give(0, 0, 9);
        x.give(1, 0, 2);
        x.give(1, 1, 5);
        x.give(2, 2, 4);
        startWith(x, 2, "(ab)");
        x.sew(2, 2);
        x.raffle(2, 7);
        x.save(1);
        startWith(x, 2, "3a");
        x.sew(2, 2);
        x.takeApart(2);
        startWith(x, 0, "[(ab)(ca)]");
        x.sew(0, 2);
        startWith(x, 1, "(abc)");
        x.sew(1, 1);
        x.sew(1, 2);
        x.sew(0, 1);
        type(x, "(ab");
        return x;
    }

    /** Five members, all frames used (not sewn, partly, finished), both slots saved, the text full and a pattern. */
    static QuiltGuild full() {
        QuiltGuild x = with(5);
        x.save(0);
        for (int c = 0; c < 6; c++) {
            x.give(c % 5, c, 2 + c);
        }
        startWith(x, 0, "(ab)");
        startWith(x, 1, "[ba]");
        startWith(x, 2, "^(cd)");
        x.sew(1, 1);
        x.sew(2, 1);
        x.sew(2, 9);
        x.save(1);
        type(x, LONGEST_PATTERN);
        return x;
    }

    static final Recipe FRESH = QuiltGuild::new;
    static final Recipe YOUNG = Guilds::young;
    static final Recipe BUSY = Guilds::busy;
    static final Recipe FULL = Guilds::full;

    // ---- refused calls, and calls that change nothing

    /** The call throws the very exception that is due, and nothing is changed by it. */
    static void refused(String what, Recipe recipe, Class<?> due, Call call) {
        QuiltGuild x = recipe.make();
        CHECKS.fails(what, due, () -> call.on(x));
        same(what + ", refused,", recipe, call);
    }

    /** The call answers what is due, and nothing is changed by it. */
    static void only(String what, Recipe recipe, Call call, long due) {
        eq(what, call.on(recipe.make()), due);
        same(what, recipe, call);
    }

    private static void same(String what, Recipe recipe, Call call) {
        CHECKS.holds(what + " changes nothing", everything(recipe, call).equals(everything(recipe, x -> 0)));
    }

    /** All that can be asked of the state, so that two states can be compared; some 150 calls with small patterns. */
    static String all(QuiltGuild x) {
        StringBuilder all = new StringBuilder();
        for (int what = 0; what <= 8; what++) {
            all.append(x.about(what)).append(' ');
        }
        int members = x.about(0);
        for (int m = 0; m < members; m++) {
            for (int what = 0; what <= 3; what++) {
                all.append(x.member(m, what)).append(' ');
            }
        }
        for (int c = 0; c < 6; c++) {
            for (int what = 0; what <= 4; what++) {
                all.append(x.cloth(c, what)).append(' ');
            }
        }
        for (int f = 0; f < 3; f++) {
            all.append(x.frame(f, 2)).append(' ').append(shown(x, f)).append(' ');
            for (int m = 0; m < members; m++) {
                all.append(x.wouldGet(f, m, 9973)).append(' ');
            }
        }
        return all.toString();
    }

    /**
     * All that can be found out of a guild after a call, the text, the states that are remembered and the slots too:
     * each part on a guild of its own, so that none is used for more than 512 calls.
     */
    private static String everything(Recipe recipe, Call call) {
        StringBuilder everything = new StringBuilder();
        everything.append(all(after(recipe, call))).append("\ngifts ");
        everything.append(gifts(after(recipe, call))).append("\nsewn ");
        everything.append(finished(after(recipe, call))).append("\ntext ");
        everything.append(text(after(recipe, call), "")).append(' ');
        everything.append(text(after(recipe, call), "b)"));
        for (int slot = 0; slot < 2; slot++) {
            everything.append("\nslot ").append(saved(after(recipe, call), slot));
        }
        for (int times = 1; times <= MOST_REMEMBERED + 1; times++) {
            everything.append("\nundone ").append(undone(after(recipe, call), times));
        }
        return everything.toString();
    }

    private static QuiltGuild after(Recipe recipe, Call call) {
        QuiltGuild x = recipe.make();
        try {
            call.on(x);
        } catch (RuntimeException e) {
            // Which one it is has been looked at; here the guild behind it is asked.
        }
        return x;
    }

    /** What each member gave of each colour is seen only by what is returned of it. */
    private static String gifts(QuiltGuild x) {
        int members = x.about(0);
        StringBuilder gifts = new StringBuilder();
        for (int c = 0; c < 6 && members > 0; c++) {
            x.give(0, c, 99);
            x.give(0, c, 99);
            x.returnCloth();
            for (int m = 0; m < members; m++) {
                gifts.append(x.member(m, 3)).append(' ');
            }
        }
        return gifts.toString();
    }

    /** Who sewed how much of a quilt is seen only when it is finished. */
    private static String finished(QuiltGuild x) {
        boolean sewable = x.about(0) > 0;
        for (int c = 0; c < 6 && sewable; c++) {
            x.give(0, c, 99);
        }
        for (int f = 0; f < 3 && sewable; f++) {
            if (x.frame(f, 0) > 0) {
                x.sew(f, 99);
            }
        }
        return all(x);
    }

    private static String text(QuiltGuild x, String more) {
        for (int i = 0; i < more.length() && x.errorPosition() != NONE; i++) {
            x.append(more.charAt(i));
        }
        StringBuilder text = new StringBuilder();
        text.append(x.errorPosition()).append(' ');
        if (x.errorPosition() == NONE) {
            if (x.frame(0, 0) > 0) {
                x.takeApart(0);
            }
            x.start(0);
            text.append(shown(x, 0)).append(' ');
        }
        return text.append(x.clearText()).toString();
    }

    private static String saved(QuiltGuild x, int slot) {
        try {
            x.restore(slot);
        } catch (IllegalStateException e) {
            return "nothing";
        }
        return all(x) + finished(x);
    }

    private static String undone(QuiltGuild x, int times) {
        StringBuilder undone = new StringBuilder();
        for (int i = 0; i < times; i++) {
            try {
                undone.append(x.undo()).append(' ');
            } catch (IllegalStateException e) {
                return undone.append("no more").toString();
            }
        }
        return undone.append(all(x)).toString();
    }
}
