import java.util.Random;

/** Long runs of calls that are drawn by a fixed seed, answered by the program and by the model of the document. */
public final class ModelTest {
    private static final Checks CHECKS = new Checks();
    private static final int RUNS = 4000;
    private static final int CALLS = 512;
    private static final String SIGNS = "abcdef()[]<^23456789a1g 0\u00e9";

    private final Random random;
    private final QuiltGuild guild = new QuiltGuild();
    private final Model model = new Model();
    private final int run;
    private int calls;
    /** How many of a hundred arguments are drawn from far outside. */
    private final int wild;

    private ModelTest(int run) {
        this.run = run;
        this.random = new Random(run);
        this.wild = run % 4 == 0 ? 12 : 1;
    }

    public static void main(String[] args) {
        for (int run = 0; run < RUNS; run++) {
            new ModelTest(run).play();
        }
        CHECKS.close("ModelTest");
    }

    private void play() {
        if (random.nextInt(8) > 0) {
            for (int i = 1 + random.nextInt(5); i > 0; i--) {
                ask("addMember", guild::addMember, model::addMember);
            }
        }
        while (calls < CALLS) {
            step();
        }
    }

    private void step() {
        int kind = random.nextInt(100);
        if (kind < 8) {
            newText();
        } else if (kind < 60) {
            act();
        } else if (kind < 64) {
            slot();
        } else {
            look();
        }
    }

    private void newText() {
        ask("clearText", guild::clearText, model::clearText);
        String text = random.nextInt(6) == 0 ? noise() : pattern(random.nextInt(5), random.nextInt(3) == 0);
        if (random.nextInt(5) == 0 && !text.isEmpty()) {
            int at = random.nextInt(text.length());
            text = text.substring(0, at) + SIGNS.charAt(random.nextInt(SIGNS.length())) + text.substring(at + 1);
        }
        for (int i = 0; i < text.length() && i < 62 && calls < CALLS; i++) {
            int c = text.charAt(i);
            ask("append " + c, () -> guild.append(c), () -> model.append(c));
            if (random.nextInt(8) == 0) {
                ask("errorPosition", guild::errorPosition, model::errorPosition);
            }
        }
        ask("errorPosition", guild::errorPosition, model::errorPosition);
    }

    private String noise() {
        StringBuilder text = new StringBuilder();
        for (int i = random.nextInt(64); i > 0; i--) {
            text.append(SIGNS.charAt(random.nextInt(SIGNS.length())));
        }
        return text.toString();
    }

    /** A block in which mostly, but not always, the sizes fit. */
    private String pattern(int depth, boolean fewColours) {
        int kind = depth == 0 ? 0 : random.nextInt(8);
        StringBuilder text = new StringBuilder();
        switch (kind) {
            case 1:
            case 2:
                return (2 + random.nextInt(random.nextInt(3) == 0 ? 8 : 2)) + pattern(depth - 1, fewColours);
            case 3:
                return "<" + pattern(depth - 1, fewColours);
            case 4:
                return "^" + pattern(depth - 1, fewColours);
            case 5:
            case 6:
            case 7: {
                String inside = pattern(depth - 1, fewColours);
                for (int i = 1 + random.nextInt(4); i > 0; i--) {
                    int other = random.nextInt(12);
                    text.append(other == 0 ? pattern(depth - 1, fewColours) : other < 4 ? "<" + inside
                        : other < 6 ? "^^" + inside : other < 7 ? recoloured(inside) : inside);
                }
                return kind == 5 ? "(" + text + ")" : "[" + text + "]";
            }
            default:
                return "" + (char) ('a' + random.nextInt(fewColours ? 2 : 6));
        }
    }

    private String recoloured(String text) {
        StringBuilder other = new StringBuilder();
        for (char c : text.toCharArray()) {
            other.append(c >= 'a' && c <= 'f' ? (char) ('a' + random.nextInt(6)) : c);
        }
        return other.toString();
    }

    private int number(int below) {
        if (random.nextInt(100) < wild) {
            int[] far = {-1, below, below + 1, Integer.MIN_VALUE, Integer.MAX_VALUE, random.nextInt()};
            return far[random.nextInt(far.length)];
        }
        return random.nextInt(below);
    }

    private int memberNumber() {
        int members = model.about(0);
        return number(members > 0 && random.nextInt(20) > 0 ? members : 5);
    }

    private int amount() {
        return number(random.nextInt(3) == 0 ? 100 : 20);
    }

    private int price() {
        return number(random.nextInt(2) == 0 ? 10000 : 30);
    }

    private void act() {
        int f = number(3);
        int c = number(6);
        int other = number(6);
        int n = amount();
        int m = memberNumber();
        int price = price();
        int kind = random.nextInt(60);
        if (kind < 1) {
            ask("addMember", guild::addMember, model::addMember);
        } else if (kind < 16) {
            ask("give " + m + " " + c + " " + n, () -> guild.give(m, c, n), () -> model.give(m, c, n));
        } else if (kind < 24) {
            ask("start " + f, () -> guild.start(f), () -> model.start(f));
        } else if (kind < 28) {
            ask("recolour " + f + " " + c + " " + other, () -> guild.recolour(f, c, other),
                () -> model.recolour(f, c, other));
        } else if (kind < 44) {
            ask("sew " + f + " " + n, () -> guild.sew(f, n), () -> model.sew(f, n));
        } else if (kind < 46) {
            ask("takeApart " + f, () -> guild.takeApart(f), () -> model.takeApart(f));
        } else if (kind < 52) {
            ask("raffle " + f + " " + price, () -> guild.raffle(f, price), () -> model.raffle(f, price));
        } else if (kind < 54) {
            ask("returnCloth", guild::returnCloth, model::returnCloth);
        } else {
            for (int i = random.nextInt(4); i >= 0; i--) {
                ask("undo", guild::undo, model::undo);
            }
        }
    }

    private void slot() {
        int slot = number(2);
        if (random.nextInt(3) > 0) {
            ask("save " + slot, () -> guild.save(slot), () -> model.save(slot));
        } else {
            ask("restore " + slot, () -> guild.restore(slot), () -> model.restore(slot));
        }
    }

    private void look() {
        int f = number(3);
        int g = number(3);
        int c = number(6);
        int m = memberNumber();
        int x = number(16);
        int y = number(16);
        boolean sewn = random.nextBoolean();
        int price = price();
        int set = number(8);
        int what = number(5 + random.nextInt(5));
        switch (random.nextInt(13)) {
            case 0: ask("about " + what, () -> guild.about(what), () -> model.about(what)); break;
            case 1: ask("member " + m + " " + what, () -> guild.member(m, what), () -> model.member(m, what)); break;
            case 2: ask("cloth " + c + " " + what, () -> guild.cloth(c, what), () -> model.cloth(c, what)); break;
            case 3: ask("frame " + f + " " + what, () -> guild.frame(f, what), () -> model.frame(f, what)); break;
            case 4: ask("patch " + f + " " + x + " " + y, () -> guild.patch(f, x, y),
                () -> model.patch(f, x, y)); break;
            case 5: ask("count " + f + " " + c + " " + sewn, () -> guild.count(f, c, sewn),
                () -> model.count(f, c, sewn)); break;
            case 6: {
                int how = number(3);
                ask("same " + f + " " + how, () -> guild.same(f, how) ? 1 : 0, () -> model.same(f, how) ? 1 : 0);
                break;
            }
            case 7: ask("lacks " + set + " " + c, () -> guild.lacks(set, c), () -> model.lacks(set, c)); break;
            case 8: ask("canFinish", guild::canFinish, model::canFinish); break;
            case 9: ask("wouldGet " + f + " " + m + " " + price, () -> guild.wouldGet(f, m, price),
                () -> model.wouldGet(f, m, price)); break;
            case 10: ask("becomes " + f + " " + g, () -> guild.becomes(f, g), () -> model.becomes(f, g)); break;
            case 11: script(); break;
            default: simulation(); break;
        }
    }

    private void script() {
        int n = random.nextInt(20) == 0 ? number(6) : 1 + random.nextInt(4);
        long script = 0;
        for (int i = 0; i < n && i < 5; i++) {
            script = script * 10000 + command();
        }
        if (random.nextInt(30) == 0) {
            script = random.nextLong() >> random.nextInt(64);
        }
        long commands = script;
        ask("runScript " + n + " " + commands, () -> guild.runScript(n, commands), () -> model.runScript(n, commands));
    }

    private int command() {
        int a = random.nextInt(random.nextInt(5) == 0 ? 10 : 3);
        int first = random.nextInt(30) == 0 ? 0 : 1 + random.nextInt(9);
        boolean zeros = (first == 3 || first == 5) && random.nextInt(10) > 0;
        int last = zeros ? 0 : first == 6 ? 10 * random.nextInt(7) + random.nextInt(7) : random.nextInt(100);
        if (first >= 7 && random.nextInt(2) == 0) {
            last = random.nextInt(6);
        }
        return 1000 * first + 100 * (first == 5 && random.nextInt(10) > 0 ? 0 : a) + last;
    }

    private void simulation() {
        long seed = random.nextInt(4) == 0 ? number(10) : random.nextLong();
        int m = number(101);
        ask("simulate " + seed + " " + m, () -> guild.simulate(seed, m), () -> model.simulate(seed, m));
    }

    private void ask(String call, Checks.Call program, Checks.Call document) {
        if (calls >= CALLS) {
            return;
        }
        calls++;
        long due;
        try {
            due = document.answer();
        } catch (RuntimeException e) {
            CHECKS.fails("run " + run + ", call " + calls + ": " + call, e.getClass(), program);
            return;
        }
        try {
            CHECKS.eq("run " + run + ", call " + calls + ": " + call, program.answer(), due);
        } catch (RuntimeException e) {
            CHECKS.fail("run " + run + ", call " + calls + ": " + call + " threw " + e + ", due is " + due);
        }
    }
}
