/** Promise 25 of ../shared/DOC.md (runScript), sentence by sentence. */
public final class ScriptTest extends Guilds {
    public static void main(String[] args) {
        numberOfCommands();
        numberOfDigits();
        highestGroupFirst();
        indexOfTheFirstThatFails();
        sew();
        give();
        takeApart();
        raffle();
        returnCloth();
        recolour();
        sewnPatches();
        piecesOfCloth();
        penceFromRaffles();
        whatDoesNotExist();
        otherGroups();
        numbersAreDecimal();
        onACopy();
        CHECKS.close("ScriptTest");
    }

    private static void succeeds(String what, QuiltGuild x, int n, long script) {
        eq(what + ": " + script, x.runScript(n, script), NONE);
    }

    private static void fails(String what, QuiltGuild x, int n, long script, int at) {
        eq(what + ": " + script, x.runScript(n, script), at);
    }

    /** Alone, and behind commands that succeed. */
    private static void command(String what, QuiltGuild x, int command, boolean succeeds) {
        eq(what + ": " + command, x.runScript(1, command), succeeds ? NONE : 0);
        eq(what + ", the second: " + command, x.runScript(2, 80000000L + command), succeeds ? NONE : 1);
        eq(what + ", the fourth: " + command, x.runScript(4, 8000800080000000L + command), succeeds ? NONE : 3);
        eq(what + ", the first of two: " + command, x.runScript(2, 10000L * command + 8000), succeeds ? NONE : 0);
    }

    // ---- the arguments

    /** "n: number of commands, 1 to 4" */
    private static void numberOfCommands() {
        long all = 0;
        for (int n = 1; n <= 4; n++) {
            all = 10000 * all + 8000;
            succeeds("as many as told, " + n, new QuiltGuild(), n, all);
        }
        int[] wrong = {0, -1, 5, 6, MIN, MAX};
        for (int n : wrong) {
            refused("as many as " + n, YOUNG, ARGUMENT, x -> x.runScript(n, 8000));
            refused("none of " + n, YOUNG, ARGUMENT, x -> x.runScript(n, 0));
        }
    }

    /** "script: the commands, a number of at most 4 * n digits (0 or more)" */
    private static void numberOfDigits() {
        long most = 1;
        for (int n = 1; n <= 4; n++) {
            int commands = n;
            most *= 10000;
            long first = most;
            fails("the greatest number of 4 * n digits", with(5), n, most - 1, 0);
            refused("the smallest number of more digits", YOUNG, ARGUMENT, x -> x.runScript(commands, first));
            refused("one that begins well", YOUNG, ARGUMENT, x -> x.runScript(commands, first * 8 + 8000));
            refused("a negative one", YOUNG, ARGUMENT, x -> x.runScript(commands, -1));
            refused("a negative one of good digits", YOUNG, ARGUMENT, x -> x.runScript(commands, -8000));
            refused("the smallest long", YOUNG, ARGUMENT, x -> x.runScript(commands, Long.MIN_VALUE));
            refused("the greatest long", YOUNG, ARGUMENT, x -> x.runScript(commands, Long.MAX_VALUE));
            fails("0", new QuiltGuild(), n, 0, 0);
            succeeds("4 * n digits", new QuiltGuild(), n, (most - 1) / 9999 * 8000);
        }
        refused("a wrong n and a wrong script", YOUNG, ARGUMENT, x -> x.runScript(0, -1));
    }

    /** "the first command is the highest group of the number (with zeros before it, if it has fewer digits)" */
    private static void highestGroupFirst() {
        QuiltGuild x = with(1);
        startWith(x, 0, "(ab)");
        succeeds("given and then looked at", x, 2, 20018001);
        fails("looked at and then given", x, 2, 80012001, 0);
        succeeds("in this order", x, 4, 2001200210017001L);
        fails("in another one", x, 4, 2001100220017003L, 3);
        fails("zeros before it are a group that fails", x, 2, 8000, 0);
        fails("zeros before it are groups that fail", x, 3, 80008000, 0);
        fails("zeros before it, of four", x, 4, 800080008000L, 0);
        fails("zeros before a digit", x, 1, 800, 0);
        fails("zeros before a digit of the first of two", x, 2, 8008000, 0);
        fails("zeros in the midst", x, 3, 800000008000L, 1);
        fails("zeros behind", x, 2, 80000000, 1);
    }

    /** "the index, from 0, of the first command that fails; NONE if all succeed" */
    private static void indexOfTheFirstThatFails() {
        QuiltGuild x = new QuiltGuild();
        succeeds("all", x, 4, 8000800080008000L);
        fails("the first", x, 4, 8001800080008000L, 0);
        fails("the second", x, 4, 8000800180008000L, 1);
        fails("the third", x, 4, 8000800080018000L, 2);
        fails("the fourth", x, 4, 8000800080008001L, 3);
        fails("the first of all", x, 4, 8001800180018001L, 0);
        fails("the second of three", x, 4, 8000800180018001L, 1);
    }

    // ---- the commands

    /** "1 f x y: sew(f, xy)." */
    private static void sew() {
        QuiltGuild x = with(2);
        x.give(0, 0, 99);
        x.give(0, 0, 99);
        startWith(x, 0, "28^28a");
        startWith(x, 2, "(ab)");
        command("at least one", x, 1000, false);
        command("one", x, 1001, true);
        command("ten", x, 1010, true);
        command("the most", x, 1099, true);
        command("the last frame", x, 1299, true);
        command("an empty frame", x, 1101, false);
        command("no such frame", x, 1301, false);
        command("no such frame, 9", x, 1901, false);
        succeeds("one is sewn", x, 2, 10017001);
        fails("and not two", x, 2, 10017002, 1);
        succeeds("99 are sewn", x, 2, 10997099);
        succeeds("as far as the cloth lasts", x, 2, 12997201);
        fails("and no farther", x, 2, 12997202, 1);
        succeeds("0 patches are sewn, too", x, 3, 120212028097L);
        QuiltGuild y = framed(0, "a");
        command("there are no members", y, 1001, false);
        QuiltGuild z = framed(1, "a");
        z.give(0, 0, 2);
        succeeds("on a finished quilt", z, 3, 100110018001L);
    }

    /** "2 m c n: give(m, c, n)." */
    private static void give() {
        QuiltGuild x = with(2);
        command("one", x, 2001, true);
        command("nine", x, 2009, true);
        command("none", x, 2000, false);
        command("the last colour", x, 2051, true);
        command("no such colour", x, 2061, false);
        command("no such colour, 9", x, 2091, false);
        command("the last member", x, 2101, true);
        command("no such member", x, 2201, false);
        command("no such member, 9", x, 2901, false);
        succeeds("nine are in the stock", x, 2, 21598509);
        fails("and not ten", x, 2, 21598510, 1);
        fails("of another colour", x, 2, 21598401, 1);
        succeeds("18", x, 3, 205921598518L);
        for (int m = 0; m < 5; m++) {
            command("all five give", with(5), 2001 + 100 * m, true);
        }
        command("nobody does", new QuiltGuild(), 2001, false);
    }

    /** "3 f 0 0: takeApart(f)." */
    private static void takeApart() {
        QuiltGuild x = framed(1, "(ab)");
        startWith(x, 2, "a");
        x.give(0, 0, 9);
        x.sew(0, 1);
        command("partly sewn", x, 3000, true);
        command("not sewn", x, 3200, true);
        command("an empty frame", x, 3100, false);
        command("no such frame", x, 3300, false);
        command("another digit for the last 0", x, 3001, false);
        command("another digit for the first 0", x, 3010, false);
        command("other digits", x, 3099, false);
        fails("it is empty then", x, 2, 30003000, 1);
        succeeds("no patches are sewn then", x, 2, 30007000);
        fails("not one", x, 3, 700130007001L, 2);
        succeeds("the stock is as before", x, 2, 30008008);
        fails("the cloth is in scraps", x, 2, 30008009, 1);
    }

    /** "4 f x y: raffle(f, xy)." */
    private static void raffle() {
        QuiltGuild x = with(2);
        x.give(0, 0, 9);
        startWith(x, 0, "2a");
        startWith(x, 2, "2a");
        x.sew(0, 1);
        x.sew(0, 1);
        x.sew(2, 1);
        command("the lowest price", x, 4000, true);
        command("the highest price of two digits", x, 4099, true);
        command("not finished", x, 4250, false);
        command("an empty frame", x, 4100, false);
        command("no such frame", x, 4300, false);
        succeeds("split, and the penny left over to 0", x, 2, 40999050);
        fails("no more to 0", x, 2, 40999051, 1);
        succeeds("to 1", x, 2, 40999149);
        fails("no more to 1", x, 2, 40999150, 1);
        fails("it is empty then", x, 2, 40014001, 1);
        succeeds("finished by a script", x, 2, 12014200);
        succeeds("two raffles", x, 4, 4009120142019104L);
        fails("two raffles, not more", x, 4, 4009120142019105L, 3);
    }

    /** "5 0 0 0: returnCloth()." */
    private static void returnCloth() {
        QuiltGuild x = with(1);
        x.give(0, 0, 9);
        command("all zeros", x, 5000, true);
        command("another last digit", x, 5001, false);
        command("another third digit", x, 5010, false);
        command("another second digit", x, 5100, false);
        command("other digits", x, 5999, false);
        fails("the stock is empty then", x, 2, 50008001, 1);
        succeeds("and can be returned again", x, 3, 500050008000L);
        command("without members", new QuiltGuild(), 5000, true);
    }

    /** "6 f a b: recolour(f, a, b)." */
    private static void recolour() {
        QuiltGuild x = framed(1, "(ab)");
        x.give(0, 5, 1);
        x.give(0, 1, 1);
        startWith(x, 2, "b");
        x.sew(2, 1);
        command("two colours", x, 6005, true);
        command("the other way", x, 6050, true);
        command("a colour and itself", x, 6055, true);
        command("a is no colour", x, 6060, false);
        command("b is no colour", x, 6006, false);
        command("neither is", x, 6099, false);
        command("an empty frame", x, 6101, false);
        command("a finished one", x, 6201, false);
        command("no such frame", x, 6301, false);
        fails("no cloth of a", x, 2, 10017001, 1);
        succeeds("cloth of f", x, 3, 600510017001L);
        fails("a patch is sewn then", x, 3, 600510016050L, 2);
        succeeds("exchanged and exchanged back", x, 4, 6005600560051001L);
    }

    /** "7 f x y: succeeds if the frame f has at least xy sewn patches." */
    private static void sewnPatches() {
        QuiltGuild x = framed(1, "28^28a");
        x.give(0, 0, 99);
        x.give(0, 0, 99);
        command("0 of none", x, 7000, true);
        command("1 of none", x, 7001, false);
        command("0 on an empty frame", x, 7200, true);
        command("1 on an empty frame", x, 7201, false);
        command("no such frame, 0", x, 7300, false);
        command("no such frame, 9", x, 7900, false);
        x.sew(0, 12);
        command("one less than there are", x, 7011, true);
        command("as many as there are", x, 7012, true);
        command("one more than there are", x, 7013, false);
        command("the digits the other way", x, 7021, false);
        x.sew(0, 87);
        command("99 of 99", x, 7099, true);
        x.undo();
        x.sew(0, 86);
        command("99 of 98", x, 7099, false);
        x.sew(0, 99);
        command("99 of more", x, 7099, true);
    }

    /** "8 c x y: succeeds if the stock has at least xy pieces of the colour c." */
    private static void piecesOfCloth() {
        QuiltGuild x = with(1);
        for (int c = 0; c < 6; c++) {
            command("0 of none, " + c, x, 8000 + 100 * c, true);
            command("1 of none, " + c, x, 8001 + 100 * c, false);
        }
        for (int c = 6; c <= 9; c++) {
            command("no such colour, " + c, x, 8000 + 100 * c, false);
        }
        x.give(0, 5, 12);
        command("one less", x, 8511, true);
        command("as many", x, 8512, true);
        command("one more", x, 8513, false);
        command("the digits the other way", x, 8521, false);
        x.give(0, 5, 86);
        command("99 of 98", x, 8599, false);
        x.give(0, 5, 1);
        command("99 of 99", x, 8599, true);
        startWith(x, 0, "f");
        x.sew(0, 1);
        command("sewn ones are not in the stock", x, 8599, false);
    }

    /** "9 m x y: succeeds if the member m has at least xy pence from raffles." */
    private static void penceFromRaffles() {
        QuiltGuild x = with(2);
        command("0 of none", x, 9000, true);
        command("0 of none, the last", x, 9100, true);
        command("1 of none", x, 9101, false);
        command("no such member", x, 9200, false);
        command("no such member, 9", x, 9900, false);
        x.give(0, 0, 9);
        startWith(x, 0, "a");
        x.sew(0, 1);
        x.raffle(0, 12);
        command("one less", x, 9011, true);
        command("as many", x, 9012, true);
        command("one more", x, 9013, false);
        command("the digits the other way", x, 9021, false);
        command("another member", x, 9112, false);
        startWith(x, 0, "a");
        x.sew(0, 1);
        x.raffle(0, 98);
        command("99 of 98", x, 9199, false);
        startWith(x, 0, "2a");
        x.sew(0, 1);
        x.sew(0, 1);
        x.raffle(0, 2);
        command("99 of 99", x, 9199, true);
        command("nobody", new QuiltGuild(), 9000, false);
    }

    /** "commands with frames, members or colours that do not exist fail" */
    private static void whatDoesNotExist() {
        for (int digit = 0; digit <= 9; digit++) {
            QuiltGuild x = full();
            command("frame " + digit, x, 7000 + 100 * digit, digit < 3);
            command("colour " + digit, x, 8000 + 100 * digit, digit < 6);
            command("member " + digit, x, 9000 + 100 * digit, digit < 5);
            command("member " + digit + " gives", x, 2001 + 100 * digit, digit < 5);
            command("colour " + digit + " is given", x, 2001 + 10 * digit, digit < 6);
            command("sewn on " + digit, x, 1001 + 100 * digit, digit < 3);
            command("taken apart " + digit, x, 3000 + 100 * digit, digit < 3);
            command("raffled " + digit, x, 4000 + 100 * digit, digit == 2);
            command("recoloured " + digit, x, 6001 + 100 * digit, digit == 0);
            command("recoloured from " + digit, x, 6000 + 10 * digit, digit < 6);
            command("recoloured to " + digit, x, 6000 + digit, digit < 6);
        }
    }

    /** "and so does any other group (also one with another digit where a 0 is written)" */
    private static void otherGroups() {
        QuiltGuild x = full();
        int[] others = {0, 1, 10, 100, 101, 500, 999};
        for (int other : others) {
            command("its first digit is 0", x, other, false);
        }
        for (int digits = 0; digits <= 999; digits++) {
            eq("5 and " + digits, x.runScript(1, 5000 + digits), digits == 0 ? NONE : 0);
            if (digits % 300 == 299) {
                x = full();
            }
        }
        for (int digits = 0; digits <= 299; digits++) {
            eq("3 and " + digits, full().runScript(1, 3000 + digits), digits % 100 == 0 ? NONE : 0);
        }
    }

    /** "xy is a decimal number" */
    private static void numbersAreDecimal() {
        QuiltGuild x = framed(1, "28^28a");
        x.give(0, 0, 99);
        for (int number = 1; number <= 99; number++) {
            succeeds("sewn", x, 2, (1000 + number) * 10000L + 7000 + number);
            if (number < 99) {
                fails("sewn and no more", x, 2, (1000 + number) * 10000L + 7001 + number, 1);
            }
        }
    }

    /** "Runs a script on a copy of the state." */
    private static void onACopy() {
        only("each command", BUSY, x -> x.runScript(4, 1099209920014199L), 1);
        only("sewn, given, raffled", BUSY, x -> x.runScript(4, 1099211941991099L), NONE);
        only("taken apart and returned", BUSY, x -> x.runScript(4, 3000310050008001L), 3);
        only("recoloured", FULL, x -> x.runScript(4, 6001600260103000L), NONE);
        only("one that fails", FULL, x -> x.runScript(2, 10991999), 1);
        only("one that fails at once", FRESH, x -> x.runScript(1, 0), 0);
        QuiltGuild x = with(1);
        succeeds("given in one script", x, 2, 20098009);
        fails("not in the next one", x, 1, 8001, 0);
        x.give(0, 0, 1);
        succeeds("given in between", x, 1, 8001);
        x.undo();
        fails("taken back in between", x, 1, 8001, 0);
    }
}
