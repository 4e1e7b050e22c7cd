/**
 * Each refusal of promises 2 to 37: the last number that is taken and the first that is not, on both
 * sides; of two that both apply the one told first; and that nothing is changed by it.
 */
public final class RefusalTest {
    private static final int NONE = LadderClub.NONE, BAD = LadderClub.BAD, STATE = LadderClub.STATE, FULL = LadderClub.FULL;
    private static final long NO = LadderClub.NO;
    private static final Twins.Calls EMPTY = States.EMPTY, SOME = States.SOME, CRAMMED = States.CRAMMED;

    public static void main(String[] args) {
        states();
        board();
        tape();
        askings();
        matches();
        passing();
        fractions();
        boards();
        ought();
        rows();
        judged();
        begin();
        rounds();
        past();
        runs();
        acts();
        undo();
        questions();
        Due.end();
    }

    /** What the other tests lean on: the looks see each part, and the states are as they are told. */
    private static void states() {
        LadderClub x = Twins.after(CRAMMED);
        int[] crammed = {6, 5, 999, 15, 6, 120, 6};
        LadderClub y = Twins.after(SOME);
        int[] some = {3, 2, 12, 3, 3, 6, 3};
        for (int what = 0; what < 7; what++) {
            Due.due("37: all it can hold, " + what, x.count(what), crammed[what]);
            Due.due("37: something, " + what, y.count(what), some[what]);
        }
        Twins.Call[] changes = {
            z -> z.name(), z -> z.chance(0, 1, 51), z -> z.hang(2, 1), z -> z.feed('1', 1), z -> z.club(), z -> z.asker(0, 3, 40),
            z -> z.asker(0, 2, 41), z -> z.match(0, 1, 0, true), z -> z.pass(1), z -> z.row(-2), z -> z.round(0, 1), z -> z.round(-1, 0),
            z -> z.past(0, 1, 5), z -> z.run(0, 1, 0), z -> z.act(0, 0, 0), z -> z.image(), z -> z.undo()};
        for (int i = 0; i < changes.length; i++) {
            Twins.Call change = changes[i];
            Twins.different("a change is seen: " + i, z -> {
                SOME.on(z);
                change.on(z);
            }, SOME);
        }
    }

    /** A name's number: by the call, of 3, of 6, and where there are none. */
    private static void name(String what, Twins.CallWith call, long refusal) {
        Twins.range(what + ", of 3", SOME, call, 0, 2, refusal);
        Twins.range(what + ", of 6", CRAMMED, call, 0, 5, refusal);
        Twins.refused(what + ", of none", States.NAMELESS, x -> call.on(x, 0), refusal);
    }

    /** A club's number: of 2, of 5, and where there are none. */
    private static void club(String what, Twins.CallWith call, long refusal) {
        Twins.range(what + ", of 2", SOME, call, 0, 1, refusal);
        Twins.range(what + ", of 5", CRAMMED, call, 0, 4, refusal);
        Twins.refused(what + ", of none", States.CLUBLESS, x -> call.on(x, 0), refusal);
    }

    private static int other(int name) {
        return name == 0 ? 1 : 0;
    }

    private static void board() {
        Twins.refused("2: a seventh name", CRAMMED, x -> x.name(), FULL);
        name("3: a", (x, n) -> x.chance(n, other(n), 60), NONE);
        name("3: b", (x, n) -> x.chance(other(n), n, 60), NONE);
        Twins.range("3: n", SOME, (x, n) -> x.chance(0, 1, n), 0, 100, BAD);
        Twins.refused("3: one name", SOME, x -> x.chance(0, 0, 50), BAD);
        Twins.refused("3: one name, the last", CRAMMED, x -> x.chance(5, 5, 50), BAD);
        Twins.refused("3: one name that is not there", SOME, x -> x.chance(3, 3, 50), NONE);
        Twins.refused("3: NONE for a, ahead of BAD", SOME, x -> x.chance(3, 0, 101), NONE);
        Twins.refused("3: NONE for b, ahead of BAD", SOME, x -> x.chance(0, 3, -1), NONE);
        name("4: a", (x, n) -> x.beats(n, other(n)), NONE);
        name("4: b", (x, n) -> x.beats(other(n), n), NONE);
        Twins.refused("4: one name", SOME, x -> x.beats(2, 2), BAD);
        Twins.refused("4: one name that is not there", SOME, x -> x.beats(3, 3), NONE);
        name("5: rung", (x, n) -> x.board(n, 0), NONE);
        name("5: rung of the true board", (x, n) -> x.board(n, 1), NONE);
        Twins.range("5: what", SOME, (x, n) -> x.board(1, n), 0, 1, NONE);
        name("6: name", (x, n) -> x.hang(n, 0), NONE);
        name("6: rung", (x, n) -> x.hang(0, n), NONE);
    }

    private static void tape() {
        Twins.range("8: n", SOME, (x, n) -> x.feed(0x7720741B7720741BL, n), 1, 8, BAD);
        Twins.refused("8: a 121st byte", CRAMMED, x -> x.feed('1', 1), FULL);
        Twins.Calls has113 = x -> Clubs.feed(x, "up 1;".repeat(7) + "shy a=1|" + "!!!b=2&c<9|".repeat(6) + "r=3|");
        Due.due("8: 113 bytes", Twins.after(has113).count(5), 113);
        Twins.refused("8: 113 and 8", has113, x -> x.feed(0x613D317C613D317CL, 8), FULL);
        Due.due("8: 113 and 7", Twins.after(has113).feed(0x613D317C613D31L, 7), 120);
        Twins.refused("8: BAD ahead of FULL, 9", CRAMMED, x -> x.feed('1', 9), BAD);
        Twins.refused("8: BAD ahead of FULL, 0", CRAMMED, x -> x.feed('1', 0), BAD);
        Twins.refused("9: a sixth club", CRAMMED, x -> x.club(), FULL);
        Twins.refused("9: a sixth club, of no tape", x -> clubs(x, ""), x -> x.club(), FULL);
        Twins.refused("9: FULL ahead of a fault", x -> clubs(x, "up 1!"), x -> x.club(), FULL);
    }

    private static void clubs(LadderClub x, String tape) {
        x.name();
        for (int i = 0; i < 5; i++) {
            Clubs.club(x, "up " + i);
        }
        Clubs.feed(x, tape);
    }

    private static void askings() {
        club("10: club", (x, n) -> x.may(n, 0, 0), NONE);
        name("10: name", (x, n) -> x.may(0, n, 0), NONE);
        Twins.range("10: day", SOME, (x, n) -> x.may(0, 1, n), 0, 999, BAD);
        Twins.refused("10: NONE for the club, ahead of BAD", SOME, x -> x.may(2, 0, -1), NONE);
        Twins.refused("10: NONE for the name, ahead of BAD", SOME, x -> x.may(0, 3, 1000), NONE);
        name("11: name", (x, n) -> x.asker(n, 1, 1), NONE);
        Twins.range("11: kind", SOME, (x, n) -> x.asker(0, n, 1), 0, 6, NONE);
        Twins.range("11: v", SOME, (x, n) -> x.asker(0, 1, n), 0, 100, BAD);
        Twins.refused("11: NONE for the name, ahead of BAD", SOME, x -> x.asker(3, 0, 101), NONE);
        Twins.refused("11: NONE for the kind, ahead of BAD", SOME, x -> x.asker(0, 7, -1), NONE);
        club("12: club", (x, n) -> x.asks(n, 0, 0), NONE);
        name("12: name", (x, n) -> x.asks(0, n, 0), NONE);
        Twins.range("12: day", SOME, (x, n) -> x.asks(0, 1, n), 0, 999, BAD);
        Twins.refused("12: NONE for the club, ahead of BAD", SOME, x -> x.asks(2, 0, -1), NONE);
        Twins.refused("12: NONE for the name, ahead of BAD", SOME, x -> x.asks(0, 3, 1000), NONE);
    }

    private static void matches() {
        club("13: club", (x, n) -> x.match(n, 1, 0, true), NONE);
        name("13: a", (x, n) -> x.match(0, n, other(n), true), NONE);
        name("13: b", (x, n) -> x.match(0, other(n), n, true), NONE);
        Twins.refused("13: one name, ahead of STATE", SOME, x -> x.match(0, 1, 1, true), BAD);
        Twins.refused("13: one name, that may ask nobody", SOME, x -> x.match(0, 2, 2, false), BAD);
        Twins.refused("13: no such club, ahead of BAD", SOME, x -> x.match(2, 0, 0, true), NONE);
        Twins.refused("13: no such name, ahead of BAD", SOME, x -> x.match(0, 3, 3, true), NONE);
        Twins.refused("13: no such club, ahead of STATE", SOME, x -> x.match(2, 2, 0, true), NONE);
        Twins.refused("13: no such a, ahead of STATE", SOME, x -> x.match(0, -1, 0, true), NONE);
        Twins.refused("13: no such b, ahead of STATE", SOME, x -> x.match(0, 2, 3, true), NONE);
        Twins.refused("13: b is lower", SOME, x -> x.match(0, 2, 0, true), STATE);
        Twins.refused("13: b is lower, and would win", SOME, x -> x.match(0, 0, 1, false), STATE);
        Twins.refused("13: b is two rungs higher, by up 1", SOME, x -> x.match(1, 1, 2, true), STATE);
        Twins.refused("13: shy today, on day 999", CRAMMED, x -> x.match(3, 4, 2, true), STATE);
    }

    private static Twins.Calls day(int day) {
        return x -> {
            States.CLUBLESS.on(x);
            Clubs.club(x, "up 2;shy d=6");
            for (int left = day; left > 0; left -= Math.min(left, 99)) {
                x.pass(Math.min(left, 99));
            }
        };
    }

    private static void passing() {
        Twins.range("14: n", SOME, (x, n) -> x.pass(n), 1, 99, BAD);
        Twins.range("14: n on day 900", day(900), (x, n) -> x.pass(n), 1, 99, BAD);
        Twins.range("14: n on day 901", day(901), (x, n) -> x.pass(n), 1, 98, BAD);
        Twins.range("14: n on day 998", day(998), (x, n) -> x.pass(n), 1, 1, BAD);
        Twins.refused("14: the last day", CRAMMED, x -> x.pass(1), BAD);
        Twins.refused("14: the last day, 99", CRAMMED, x -> x.pass(99), BAD);
        Due.due("14: 900 and 99", Twins.after(day(900)).pass(99), 999);
    }

    private static void fractions() {
        for (int part = 0; part < 2; part++) {
            int p = part;
            String of = part == 0 ? "above: " : "below: ";
            club("15: " + of + "club", (x, n) -> x.share(n, 2, 0, 0, p), NO);
            club("16: " + of + "club", (x, n) -> x.truly(n, 2, p), NO);
            club("18: " + of + "club", (x, n) -> x.mean(n, 2, 0, p), NO);
            club("23: " + of + "club", (x, n) -> x.refuse(n, 2, 0, p), NO);
            name("15: " + of + "name", (x, n) -> x.share(0, 2, n, 0, p), NO);
            name("15: " + of + "rung", (x, n) -> x.share(0, 2, 0, n, p), NO);
            name("18: " + of + "name", (x, n) -> x.mean(0, 2, n, p), NO);
            name("23: " + of + "name", (x, n) -> x.refuse(0, 2, n, p), NO);
            Twins.range("15: " + of + "n", SOME, (x, n) -> x.share(0, n, 0, 0, p), 0, 6, NO);
            Twins.range("16: " + of + "n", SOME, (x, n) -> x.truly(0, n, p), 0, 6, NO);
            Twins.range("18: " + of + "n", SOME, (x, n) -> x.mean(0, n, 0, p), 0, 6, NO);
            Twins.range("23: " + of + "n", SOME, (x, n) -> x.refuse(0, n, 0, p), 0, 6, NO);
            Twins.refused("16: " + of + "no names", States.NAMELESS, x -> x.truly(0, 0, p), NO);
            Twins.refused("16: " + of + "neither names nor clubs", EMPTY, x -> x.truly(0, 0, p), NO);
        }
        Twins.range("15: part", SOME, (x, n) -> x.share(0, 2, 0, 0, n), 0, 1, NO);
        Twins.range("16: part", SOME, (x, n) -> x.truly(0, 2, n), 0, 1, NO);
        Twins.range("18: part", SOME, (x, n) -> x.mean(0, 2, 0, n), 0, 1, NO);
        Twins.range("23: part", SOME, (x, n) -> x.refuse(0, 2, 0, n), 0, 1, NO);
    }

    private static void boards() {
        club("17: club", (x, n) -> x.likely(n, 2, 0), NONE);
        name("17: rung", (x, n) -> x.likely(0, 2, n), NONE);
        Twins.range("17: n", SOME, (x, n) -> x.likely(0, n, 0), 0, 6, BAD);
        Twins.refused("17: NONE for the club, ahead of BAD", SOME, x -> x.likely(2, 7, 0), NONE);
        Twins.refused("17: NONE for the rung, ahead of BAD", SOME, x -> x.likely(0, -1, 3), NONE);
        club("19: club, stuck", (x, n) -> x.stuck(n, 0), NONE);
        club("19: club, hanging", (x, n) -> x.stuck(n, 1), NONE);
        Twins.range("19: what", SOME, (x, n) -> x.stuck(0, n), 0, 1, NONE);
        Twins.range("25: n", SOME, (x, n) -> x.best(n), 0, 6, BAD);
        Twins.range("25: n without clubs", States.CLUBLESS, (x, n) -> x.best(n), 0, 6, BAD);
        Twins.range("25: n without names", States.NAMELESS, (x, n) -> x.best(n), 0, 6, BAD);
        Twins.range("25: n without both", EMPTY, (x, n) -> x.best(n), 0, 6, BAD);
    }

    private static void ought() {
        club("20: club", (x, n) -> x.ought(n, 2, 1), NONE);
        name("20: name", (x, n) -> x.ought(0, 2, n), NONE);
        Twins.range("20: n", SOME, (x, n) -> x.ought(0, n, 1), 1, 6, BAD);
        Twins.refused("20: NONE for the club, ahead of BAD", SOME, x -> x.ought(2, 0, 1), NONE);
        Twins.refused("20: NONE for the name, ahead of BAD", SOME, x -> x.ought(0, 7, 3), NONE);
        Twins.refused("20: NONE for the club, ahead of STATE", SOME, x -> x.ought(2, 1, 0), NONE);
        Twins.refused("20: NONE for the name, ahead of STATE", SOME, x -> x.ought(0, 1, -1), NONE);
        Twins.refused("20: BAD ahead of STATE, 0", SOME, x -> x.ought(0, 0, 0), BAD);
        Twins.refused("20: BAD ahead of STATE, 7", SOME, x -> x.ought(0, 7, 2), BAD);
        Twins.refused("20: not its turn, 0", SOME, x -> x.ought(0, 1, 0), STATE);
        Twins.refused("20: not its turn, 2", SOME, x -> x.ought(0, 6, 2), STATE);
    }

    private static void rows() {
        Twins.Calls five = x -> {
            States.CLUBLESS.on(x);
            for (int i = 0; i < 5; i++) {
                x.row(i - 1);
            }
        };
        for (int name = -1; name <= 5; name++) {
            int n = name;
            Due.due("21: a sixth, " + n, Twins.after(five).row(n), 6);
            Twins.refused("21: a seventh, " + n, CRAMMED, x -> x.row(n), FULL);
        }
        for (int name : new int[] {-3, 6, Integer.MIN_VALUE, Integer.MAX_VALUE}) {
            Twins.refused("21: " + name, SOME, x -> x.row(name), BAD);
            Twins.refused("21: BAD ahead of FULL, " + name, CRAMMED, x -> x.row(name), BAD);
        }
        Due.due("21: -2 is not refused, if it is full", Twins.after(CRAMMED).row(-2), 0);
        Due.due("21: nor if it is empty", new LadderClub().row(-2), 0);
    }

    private static void judged() {
        club("22: club", (x, n) -> x.judged(n, 0), NONE);
        Twins.range("22: day", SOME, (x, n) -> x.judged(0, n), 0, 999, BAD);
        Twins.refused("22: NONE ahead of BAD", SOME, x -> x.judged(2, 1000), NONE);
        Twins.Calls tooShort = x -> {
            SOME.on(x);
            x.row(-2);
            x.row(2);
            x.row(2);
        };
        Twins.Calls tooLong = x -> {
            SOME.on(x);
            x.row(-1);
        };
        for (Twins.Calls not : new Twins.Calls[] {tooShort, tooLong}) {
            Twins.refused("22: NONE ahead of STATE", not, x -> x.judged(2, 0), NONE);
            Twins.refused("22: BAD ahead of STATE, -1", not, x -> x.judged(0, -1), BAD);
            Twins.refused("22: BAD ahead of STATE, 1000", not, x -> x.judged(0, 1000), BAD);
            Twins.refused("22: the row is not as long", not, x -> x.judged(0, 0), STATE);
        }
        Twins.refused("22: an empty row", day(0), x -> x.judged(0, 0), STATE);
        Twins.refused("22: a row of one, of no names", x -> {
            Clubs.club(x, "up 1");
            x.row(-1);
        }, x -> x.judged(0, 0), STATE);
        Due.due("22: a row as long", Twins.after(SOME).judged(0, 999), -5);
    }

    private static void begin() {
        club("24: club", (x, n) -> x.begin(n, 2, 0), NONE);
        name("24: name", (x, n) -> x.begin(0, 2, n), NONE);
        Twins.range("24: n", SOME, (x, n) -> x.begin(0, n, 0), 0, 6, BAD);
        Twins.refused("24: NONE for the club, ahead of BAD", SOME, x -> x.begin(2, 7, 0), NONE);
        Twins.refused("24: NONE for the name, ahead of BAD", SOME, x -> x.begin(0, -1, 3), NONE);
    }

    private static void rounds() {
        for (int i = 0; i < 5; i++) {
            Due.due("26: i above j 5: " + i, new LadderClub().round(i, 5), 1);
        }
        Twins.range("26: j below i 0", EMPTY, (x, n) -> x.round(0, n), 1, 5, BAD);
        Twins.range("26: j below i 4", EMPTY, (x, n) -> x.round(4, n), 5, 5, BAD);
        int[][] wrong = {{0, 0}, {5, 5}, {3, 2}, {5, 0}, {0, 6}, {5, 6}, {6, 7}, {-2, 0}, {-2, -1}, {0, -1}, {-3, 9}};
        for (int[] w : wrong) {
            Twins.refused("26: " + w[0] + " " + w[1], SOME, x -> x.round(w[0], w[1]), BAD);
            Twins.refused("26: BAD ahead of FULL, " + w[0] + " " + w[1], CRAMMED, x -> x.round(w[0], w[1]), BAD);
        }
        Twins.refused("26: a sixteenth, 0 1", CRAMMED, x -> x.round(0, 1), FULL);
        Twins.refused("26: a sixteenth, 4 5", CRAMMED, x -> x.round(4, 5), FULL);
        for (int j : new int[] {-1, 0, 5, 6, Integer.MIN_VALUE, Integer.MAX_VALUE}) {
            Due.due("26: i -1, whatever the other is: " + j, Twins.after(CRAMMED).round(-1, j), 0);
            Due.due("26: i -1, if they are empty: " + j, new LadderClub().round(-1, j), 0);
        }
        Twins.range("27: what", SOME, (x, n) -> x.sorts(n), 0, 1, NONE);
        Twins.range("27: what, of no names", EMPTY, (x, n) -> x.sorts(n), 0, 1, NONE);
        Twins.Calls lacking = x -> {
            SOME.on(x);
            x.round(2, 3);
        };
        Twins.refused("27: a rung that is not there", lacking, x -> x.sorts(0), STATE);
        Twins.refused("27: with 1, too", lacking, x -> x.sorts(1), STATE);
        Twins.refused("27: NONE ahead of STATE, 2", lacking, x -> x.sorts(2), NONE);
        Twins.refused("27: NONE ahead of STATE, -1", lacking, x -> x.sorts(-1), NONE);
        Twins.refused("27: rungs, but no names", x -> x.round(0, 1), x -> x.sorts(0), STATE);
        Twins.refused("27: rungs, but one name", x -> x.round(0, x.name() + 1), x -> x.sorts(1), STATE);
    }

    private static void past() {
        name("28: a", (x, n) -> x.past(n, other(n), 60), NONE);
        name("28: b", (x, n) -> x.past(other(n), n, 60), NONE);
        Twins.range("28: n", SOME, (x, n) -> x.past(0, 1, n), 0, 99, BAD);
        Twins.refused("28: one name", SOME, x -> x.past(0, 0, 1), BAD);
        Twins.refused("28: one name, the last", CRAMMED, x -> x.past(5, 5, 1), BAD);
        Twins.refused("28: one name that is not there", SOME, x -> x.past(3, 3, 1), NONE);
        Twins.refused("28: NONE for a, ahead of BAD", SOME, x -> x.past(3, 0, 100), NONE);
        Twins.refused("28: NONE for b, ahead of BAD", SOME, x -> x.past(0, 3, -1), NONE);
        Twins.range("29: what", SOME, (x, n) -> x.really(n), 0, 2, NONE);
        Twins.range("29: what, of no names", EMPTY, (x, n) -> x.really(n), 0, 2, NONE);
        name("30: i", (x, n) -> x.order(n), NONE);
    }

    private static void runs() {
        club("31: club", (x, n) -> x.run(n, 1, 0), NONE);
        Twins.range("31: n", SOME, (x, n) -> x.run(0, n, 0), 1, 99, BAD);
        Twins.range("31: seed", SOME, (x, n) -> x.run(0, 5, n), 0, 999, BAD);
        Twins.range("31: n on day 900", day(900), (x, n) -> x.run(0, n, 0), 1, 99, BAD);
        Twins.range("31: n on day 901", day(901), (x, n) -> x.run(0, n, 0), 1, 98, BAD);
        Twins.range("31: n on day 998", day(998), (x, n) -> x.run(0, n, 0), 1, 1, BAD);
        Twins.refused("31: the last day", CRAMMED, x -> x.run(0, 1, 0), BAD);
        Twins.refused("31: the last day, of three names", day(999), x -> x.run(0, 1, 0), BAD);
        Twins.refused("31: NONE ahead of BAD, n 0", SOME, x -> x.run(2, 0, 0), NONE);
        Twins.refused("31: NONE ahead of BAD, n 100", SOME, x -> x.run(-1, 100, 0), NONE);
        Twins.refused("31: NONE ahead of BAD, seed", SOME, x -> x.run(2, 1, 1000), NONE);
        Twins.refused("31: NONE ahead of BAD, beyond day 999", CRAMMED, x -> x.run(5, 1, 0), NONE);
    }

    /** Behind any calls, and then a refused act, there is no trace; all else is as it was. */
    private static void noAct(String what, int name, int act) {
        Due.due("32: " + what, Twins.after(SOME).act(name, act, 7), 0);
        Twins.alike("32: " + what + " changes the trace alone", x -> {
            SOME.on(x);
            x.act(name, act, 7);
        }, States.QUIET);
    }

    private static void acts() {
        for (int n : new int[] {-1, 3, 5, 6, Integer.MIN_VALUE, Integer.MAX_VALUE}) {
            noAct("name " + n, n, 0);
            noAct("act " + n, 1, n);
            noAct("name and act " + n, n, n);
        }
        Due.due("32: name 0 is not refused", Twins.after(SOME).act(0, 0, 7), 7);
        Due.due("32: name 2 is not refused", Twins.after(SOME).act(2, 0, 7), 9);
        Due.due("32: name 5 is not refused", Twins.after(CRAMMED).act(5, 0, 7), 12);
        Due.due("32: name 6 of 6 is", Twins.after(CRAMMED).act(6, 0, 7), 0);
        Due.due("32: act 2 is not refused", Twins.after(SOME).act(1, 2, 7), 16);
        Twins.range("33: i", SOME, (x, n) -> x.trace(n), 0, 2, NONE);
        Twins.range("33: i of six", CRAMMED, (x, n) -> x.trace(n), 0, 5, NONE);
        Twins.refused("33: none ran", States.QUIET, x -> x.trace(0), NONE);
        name("34: name", (x, n) -> x.as(n, 0), NONE);
        Twins.range("34: k", SOME, (x, n) -> x.as(1, n), 0, 6, NONE);
        Twins.refused("34: of another kind", SOME, x -> x.as(1, 6), -6);
        Twins.refused("34: NONE for k, of name 3 of another kind", CRAMMED, x -> x.as(3, 7), NONE);
        Twins.refused("34: NONE for the name, ahead of another kind", SOME, x -> x.as(3, 6), NONE);
        Twins.range("37: what", SOME, (x, n) -> x.count(n), 0, 6, NONE);
        Twins.range("37: what of nothing", EMPTY, (x, n) -> x.count(n), 0, 6, NONE);
    }

    private static void undo() {
        Twins.refused("36: no image of nothing", EMPTY, x -> x.undo(), STATE);
        Twins.refused("36: no image", day(999), x -> x.undo(), STATE);
        Twins.refused("36: and none behind a refused one", x -> {
            day(17).on(x);
            x.undo();
        }, x -> x.undo(), STATE);
    }

    /** What only answers changes nothing, not even the trace. */
    private static void questions() {
        Twins.Call[] asked = {
            x -> x.beats(1, 2), x -> x.board(0, 0), x -> x.board(2, 1), x -> x.far(), x -> x.may(0, 1, 9), x -> x.asks(0, 1, 9),
            x -> x.share(0, 6, 1, 0, 1), x -> x.truly(1, 6, 0), x -> x.likely(0, 6, 1), x -> x.mean(0, 6, 1, 0), x -> x.stuck(0, 0),
            x -> x.stuck(0, 1), x -> x.ought(0, 6, 1), x -> x.judged(0, 5), x -> x.refuse(0, 6, 0, 0), x -> x.begin(0, 6, 1),
            x -> x.best(6), x -> x.sorts(0), x -> x.sorts(1), x -> x.really(0), x -> x.really(1), x -> x.really(2), x -> x.order(2),
            x -> x.trace(1), x -> x.as(0, 2), x -> x.count(6), x -> x.hang(0, 1), x -> x.chance(1, 2, 70), x -> x.past(1, 2, 7),
            x -> x.asker(2, 5, 1)};
        for (int i = 0; i < asked.length; i++) {
            Twins.keeps("a question, or what is so already: " + i, SOME, asked[i]);
        }
        Twins.Call[] lost = {x -> x.match(0, 1, 2, false), x -> x.match(0, 0, 2, false)};
        for (Twins.Call call : lost) {
            Twins.keeps("13: a match that is lost changes nothing", SOME, call);
        }
    }
}
