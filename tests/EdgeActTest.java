/** Promises 32 to 37 where their bounds are: numbers that wrap, the trace, what an image holds, the last call. */
public final class EdgeActTest {
    private static final int MIN = Integer.MIN_VALUE, MAX = Integer.MAX_VALUE;

    public static void main(String[] args) {
        wrapping();
        theirNumbers();
        theTrace();
        theTraceStays();
        kinds();
        anImageOfAll();
        imagesAndDays();
        counts();
        theLastCall();
        Due.end();
    }

    /** An act of the last name of so many. */
    private static void act(int names, int kind, int v, int act, int x, int due) {
        LadderClub club = Clubs.names(names);
        club.asker(names - 1, kind, v);
        String what = "32: kind " + kind + " with " + v + ", name " + (names - 1) + ", act " + act + " with " + x;
        Due.due(what, club.act(names - 1, act, x), due);
    }

    private static void wrapping() {
        act(6, 0, 0, 0, MAX, MIN + 4);
        act(1, 0, 0, 0, MIN, MIN);
        act(1, 0, 100, 1, MIN, MAX - 99);
        act(1, 0, 1, 1, MIN, MAX);
        act(1, 0, 0, 2, MIN, 0);
        act(1, 0, 1, 2, MIN, -2);
        act(1, 0, 0, 2, MAX, -2);
        act(1, 1, 0, 0, MAX, MAX - 2);
        act(1, 1, 0, 0, MIN, MIN);
        act(2, 1, 0, 0, 0x55555555, 0);
        act(2, 1, 0, 0, 0x2AAAAAAB, MIN + 2);
        act(1, 2, 0, 1, MIN, MIN);
        act(1, 2, 0, 2, MIN, 0);
        act(1, 3, 0, 2, MIN, 4);
        act(1, 3, 0, 2, MIN + 1, 2);
        act(6, 4, 0, 0, MAX, MIN + 1);
        act(6, 4, 0, 1, MAX, MAX);
        act(1, 5, 0, 2, MIN, 7);
        act(1, 5, 0, 2, MAX, -2 ^ 7);
        act(1, 6, 100, 1, MIN, MIN);
        act(1, 6, 100, 1, MAX, MAX);
        act(1, 6, 100, 2, MIN, 7);
    }

    private static void theirNumbers() {
        for (int kind = 0; kind < 7; kind++) {
            for (int names = 1; names <= 6; names++) {
                int i = names - 1;
                int asks = kind == 1 ? 12 + i : kind == 4 ? 4 + i ^ i : 4 + i;
                act(names, kind, 0, 0, 4, asks);
                int takes = kind >= 2 && kind <= 4 ? 100 - asks : kind == 6 ? asks : asks - 100;
                act(names, kind, 100, 1, 4, takes);
            }
        }
    }

    private static void theTrace() {
        LadderClub x = Clubs.names(1);
        Due.due("33: before any act", x.trace(0), LadderClub.NONE);
        x.asker(0, 3, 0);
        x.act(0, 2, 9);
        int[] most = {41, 3, 21, 2, 1, 1};
        Due.due("37: as many as ever run", x.count(6), 6);
        for (int i = -1; i < 22; i++) {
            Due.due("33: body " + i, x.trace(i), i >= 0 && i < 6 ? most[i] : LadderClub.NONE);
        }
        x.act(0, 0, 9);
        Due.due("33: the latest act's alone", x.trace(0), 1);
        for (int i = 1; i < 22; i++) {
            Due.due("33: no body " + i, x.trace(i), LadderClub.NONE);
        }
        Due.due("37: one", x.count(6), 1);
        x.act(1, 0, 9);
        Due.due("33: none then", x.trace(0), LadderClub.NONE);
        Due.due("37: none", x.count(6), 0);
        Due.due("33: and again none", x.act(0, 3, 9) + x.count(6), 0);
        x.act(0, 1, 9);
        Due.due("33: but then", x.trace(0) * 1000 + x.trace(1) * 10 + x.trace(2), 21021);
    }

    /** All calls but act() leave the trace and how many ran. */
    private static void theTraceStays() {
        LadderClub x = Clubs.names(2, "up 1");
        x.image();
        x.asker(1, 5, 0);
        x.act(1, 2, 9);
        x.asker(1, 0, 0);
        x.name();
        x.hang(2, 0);
        x.match(0, 1, 0, true);
        x.run(0, 9, 9);
        x.pass(1);
        x.image();
        x.undo();
        x.as(1, 5);
        x.trace(3);
        Due.due("37: how many ran", x.count(6), 4);
        Due.due("33: of its kind then", x.trace(0) * 1000 + x.trace(1) * 100 + x.trace(2) * 10 + x.trace(3), 31321);
    }

    private static void kinds() {
        LadderClub x = Clubs.names(6);
        for (int a = 0; a < 6; a++) {
            Due.due("34: ASKER with 0 at first", x.as(a, 0), 0);
            for (int k = 1; k < 7; k++) {
                Due.due("34: and of no other kind", x.as(a, k), -6);
            }
            Due.due("11: kind 0 at first", x.asker(a, a + 1, a * 20), 0);
        }
        int[] under = {0b0000001, 0b0000011, 0b0000101, 0b0001101, 0b0010101, 0b0100001, 0b1100001}; // whom each may be taken for
        for (int a = 0; a < 6; a++) {
            for (int k = 0; k < 7; k++) {
                Due.due("34: kind " + (a + 1) + " as " + k, x.as(a, k), (under[a + 1] >> k & 1) == 1 ? a * 20 : -6);
            }
        }
    }

    private static void anImageOfAll() {
        Twins.Call[] changes = {
            x -> x.name(), x -> x.chance(0, 1, 99), x -> x.chance(0, 2, 0), x -> x.hang(1, 0),
            x -> x.asker(0, 3, 40), x -> x.asker(0, 2, 41), x -> x.asker(1, 6, 1),
            x -> x.feed('1', 1), x -> x.feed(-1, 8), x -> x.club(), x -> x.feed('1', 1) + x.club(),
            x -> x.match(0, 1, 2, true), x -> x.pass(1), x -> x.pass(99), x -> x.run(0, 5, 8),
            x -> x.row(-2), x -> x.row(-2) + x.row(1) + x.row(0) + x.row(-1), x -> x.row(5),
            x -> x.round(-1, 0), x -> x.round(0, 1), x -> x.round(-1, 0) + x.round(0, 2) + x.round(0, 2) + x.round(0, 2),
            x -> x.round(-1, 0) + x.round(1, 2) + x.round(1, 2) + x.round(1, 2),
            x -> x.past(0, 1, 5), x -> x.past(2, 1, 99), x -> x.past(2, 0, 0)};
        Twins.Calls imaged = x -> {
            States.SOME.on(x);
            x.image();
        };
        for (int i = 0; i < changes.length; i++) {
            Twins.Call change = changes[i];
            Twins.different("36: it is a change: " + i, x -> {
                imaged.on(x);
                change.on(x);
            }, imaged);
            Twins.alike("36: all is as the image, behind change " + i, x -> {
                imaged.on(x);
                change.on(x);
                x.undo();
            }, imaged);
        }
        Twins.alike("36: behind all changes", x -> {
            imaged.on(x);
            for (Twins.Call change : changes) {
                change.on(x);
            }
            x.undo();
        }, imaged);
        Twins.alike("36: but the trace", x -> {
            imaged.on(x);
            x.act(0, 1, 5);
            x.undo();
        }, x -> {
            imaged.on(x);
            x.act(0, 1, 5);
        });
        Twins.alike("36: to nothing", x -> {
            x.image();
            States.CLUBLESS.on(x);
            Clubs.club(x, "up 1");
            Clubs.feed(x, "bold");
            x.row(0);
            x.round(0, 1);
            x.past(0, 1, 1);
            x.asker(0, 1, 1);
            x.chance(0, 1, 1);
            x.run(0, 7, 7);
            x.undo();
        }, x -> x.image());
    }

    private static void imagesAndDays() {
        LadderClub x = new LadderClub();
        Due.due("36: none", x.undo(), LadderClub.STATE);
        Due.due("35: today, 0", x.image(), 0);
        Due.due("36: today, 0", x.undo(), 0);
        for (int i = 0; i < 10; i++) {
            x.pass(99);
        }
        x.pass(9);
        Due.due("36: back to 0", x.undo(), 0);
        Due.due("37: 0", x.count(2), 0);
        for (int i = 0; i < 10; i++) {
            x.pass(99);
        }
        x.pass(9);
        Due.due("35: today, 999", x.image(), 999);
        Due.due("36: the latest one", x.undo(), 999);
        Due.due("36: again and again", x.undo(), 999);
        Due.due("37: 999", x.count(2), 999);
        LadderClub y = Clubs.names(6);
        y.image();
        Due.due("36: six are six", y.undo() * 10 + y.count(0), 6);
        Due.due("2: FULL as then", y.name(), LadderClub.FULL);
    }

    private static void counts() {
        LadderClub x = new LadderClub();
        for (int i = 1; i <= 6; i++) {
            x.name();
            Due.due("37: names", x.count(0), i);
        }
        x.name();
        Due.due("37: six names", x.count(0), 6);
        for (int i = 1; i <= 5; i++) {
            Clubs.club(x, "up 1");
            Due.due("37: clubs", x.count(1), i);
            Due.due("37: no bytes", x.count(5), 0);
        }
        Clubs.club(x, "up 1");
        Due.due("37: five clubs", x.count(1), 5);
        Due.due("37: the tape of the sixth", x.count(5), 4);
        for (int what : new int[] {-1, 7, MIN, MAX}) {
            Due.due("37: no what " + what, x.count(what), LadderClub.NONE);
        }
    }

    /** An object is used for 512 calls: the last one answers as the first. */
    private static void theLastCall() {
        LadderClub x = Clubs.names(6, "up 5;wins c");
        x.image();
        x.asker(5, 3, 100);
        for (int calls = 6 + 3 + 2; calls < 511; calls++) {
            x.act(5, 2, calls);
        }
        Due.due("32: the 512th call", x.act(5, 2, 511), -(511 - 1 + 5 - 100) * 2 + 7);
    }
}
