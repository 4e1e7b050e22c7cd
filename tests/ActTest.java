/** Promises 32 to 37: acts, the image, counts. */
public final class ActTest {
    public static void main(String[] args) {
        promise32and33();
        promise32Wrapping();
        promise32Refusals();
        promise34();
        promise35and36();
        promise36Anew();
        promise37();
        Due.end();
    }

    /** An act of name 3 of a kind, with v 5 and x 10; its bodies behind. */
    private static void act(int kind, int act, int want, int... bodies) {
        LadderClub x = Clubs.names(4);
        x.asker(3, kind, 5);
        String what = "kind " + kind + ", act " + act;
        Due.due("32: " + what, x.act(3, act, 10), want);
        Due.due("37: bodies of " + what, x.count(6), bodies.length);
        for (int i = 0; i < bodies.length; i++) {
            Due.due("33: body " + i + " of " + what, x.trace(i), bodies[i]);
        }
        Due.due("33: no further body of " + what, x.trace(bodies.length), LadderClub.NONE);
        Due.due("33: none ahead of " + what, x.trace(-1), LadderClub.NONE);
    }

    private static void promise32and33() {
        act(0, 0, 13, 1);
        act(0, 1, 8, 2, 1);
        act(0, 2, 16, 3, 2, 1);
        act(1, 0, 33, 11, 1);
        act(1, 1, 28, 2, 11, 1);
        act(1, 2, 56, 3, 2, 11, 1);
        act(2, 0, 13, 1);
        act(2, 1, -8, 21, 2, 1);
        act(2, 2, -16, 3, 21, 2, 1);
        act(3, 0, 13, 1);
        act(3, 1, -8, 21, 2, 1);
        act(3, 2, -14 + 5, 41, 3, 21, 2, 1, 1);
        act(4, 0, 13 ^ 3, 51, 1);
        act(4, 1, -9, 21, 2, 51, 1);
        act(4, 2, -18, 3, 21, 2, 51, 1);
        act(5, 0, 13, 1);
        act(5, 1, 8, 2, 1);
        act(5, 2, 16 ^ 7, 31, 3, 2, 1);
        act(6, 0, 13, 1);
        act(6, 1, 13, 61, 2, 1);
        act(6, 2, 26 ^ 7, 31, 3, 61, 2, 1);
    }

    private static void promise32Wrapping() {
        LadderClub x = Clubs.names(2);
        Due.due("32: wraps", x.act(1, 0, Integer.MAX_VALUE), Integer.MIN_VALUE);
        Due.due("32: doubled", x.act(0, 2, 1 << 30), Integer.MIN_VALUE);
        x.asker(1, 1, 0);
        Due.due("32: three times", x.act(1, 0, 1 << 30), (1 << 30) * 3 + 1);
        x.asker(1, 2, 0);
        Due.due("32: below nothing", x.act(1, 1, Integer.MAX_VALUE), Integer.MIN_VALUE);
        x.asker(1, 3, 100);
        Due.due("32: one less than the least", x.act(1, 2, Integer.MIN_VALUE), -(Integer.MIN_VALUE - 100) * 2 + 3);
    }

    private static void promise32Refusals() {
        LadderClub x = Clubs.names(1);
        x.act(0, 2, 4);
        Due.due("33: three ran", x.trace(2), 1);
        Due.due("32: no such act", x.act(0, 3, 4), 0);
        Due.due("33: no trace then", x.trace(0), LadderClub.NONE);
        Due.due("37: none ran", x.count(6), 0);
        x.act(0, 2, 4);
        Due.due("32: no such name", x.act(1, 0, 4), 0);
        Due.due("33: no trace then", x.trace(0), LadderClub.NONE);
        Due.due("37: none ran", x.count(6), 0);
        x.act(0, 1, 4);
        Due.due("32: below 0", x.act(0, -1, 4), 0);
        Due.due("32: below 0", x.act(-1, 0, 4), 0);
        Due.due("33: no trace then", x.trace(0), LadderClub.NONE);
        x.act(0, 2, 4);
        x.act(0, 0, 4);
        Due.due("33: the latest one's alone", x.trace(1), LadderClub.NONE);
        Due.due("33: its body", x.trace(0), 1);
        Due.due("33: far behind", x.trace(Integer.MAX_VALUE), LadderClub.NONE);
        Due.due("33: far ahead", x.trace(Integer.MIN_VALUE), LadderClub.NONE);
    }

    private static void promise34() {
        String[] above = {"0", "01", "02", "023", "024", "05", "056"};
        LadderClub x = Clubs.names(2);
        for (int kind = 0; kind < 7; kind++) {
            x.asker(1, kind, 70 + kind);
            for (int k = 0; k < 7; k++) {
                boolean is = above[kind].indexOf('0' + k) >= 0;
                Due.due("34: kind " + kind + " as " + k, x.as(1, k), is ? 70 + kind : -6);
            }
        }
        Due.due("34: no such name", x.as(2, 0), LadderClub.NONE);
        Due.due("34: no such name", x.as(-1, 0), LadderClub.NONE);
        Due.due("34: no such kind", x.as(1, 7), LadderClub.NONE);
        Due.due("34: no such kind", x.as(1, -1), LadderClub.NONE);
    }

    /** A ladder with something everywhere. */
    private static LadderClub full() {
        LadderClub x = Clubs.names(3, "up 2;wins c");
        x.hang(2, 1);
        x.chance(2, 0, 80);
        x.asker(1, 5, 2);
        x.chance(2, 1, 80);
        x.round(0, 2);
        x.past(1, 0, 7);
        x.row(1);
        x.pass(12);
        Clubs.feed(x, "wins");
        return x;
    }

    private static void promise35and36() {
        LadderClub x = full();
        Due.due("36: no image", x.undo(), LadderClub.STATE);
        Due.due("35: today", x.image(), 12);
        String before = Clubs.all(x);
        Clubs.feed(x, " t");
        x.club();
        Clubs.feed(x, "bold ");
        x.name();
        x.hang(3, 0);
        x.chance(2, 0, 10);
        x.chance(3, 0, 10);
        x.past(3, 0, 5);
        x.past(1, 0, 0);
        x.asker(1, 6, 3);
        x.asker(3, 4, 3);
        x.round(-1, 0);
        x.round(1, 2);
        x.round(0, 1);
        x.row(-2);
        x.row(2);
        x.row(2);
        x.pass(5);
        Due.due("36: today", x.undo(), 12);
        Due.due("36: all is as it was", before.equals(Clubs.all(x)));
        Clubs.feed(x, " o;up 2");
        Due.due("36: the tape, too", x.club(), 1);
        Due.due("36: and its text", x.may(1, 1, 0), 0b101);
        x.row(2);
        x.row(0);
        Due.due("36: the row: 0 asks nobody", x.judged(0, 0), 0);
        x.hang(0, 2); // 2 1 0; 1 is told to ask 2, 0 asks 1 or 2, both by 50 and by 20: 1
        Due.due("36: the row: 1 2 0, and 2 asks nobody", x.judged(0, 0), 2);
        Due.due("36: a new name", x.name(), 3);
        Due.due("36: with chances as at first", x.beats(3, 0), 50);
        Due.due("36: and of kind 0", x.asker(3, 0, 0), 0);
        Due.due("36: without a past", x.past(3, 0, 0), 0);
        Due.due("36: as often as one will", x.undo(), 12);
        Due.due("36: all is as it was", before.equals(Clubs.all(x)));
    }

    private static void promise36Anew() {
        LadderClub x = full();
        x.image();
        x.pass(3);
        x.act(0, 2, 5);
        Due.due("35: a later one", x.image(), 15);
        x.pass(1);
        Due.due("36: the later one", x.undo(), 15);
        x.act(0, 1, 5);
        x.undo();
        Due.due("36: but the trace", x.trace(0), 2);
        Due.due("36: and how many ran", x.count(6), 2);
        LadderClub y = new LadderClub();
        Due.due("35: of nothing", y.image(), 0);
        y.name();
        Due.due("36: to nothing", y.undo(), 0);
        Due.due("36: no names", y.count(0), 0);
    }

    private static void promise37() {
        LadderClub x = full();
        int[] counts = {3, 1, 12, 1, 1, 4, 0};
        for (int what = 0; what < 7; what++) {
            Due.due("37: " + what, x.count(what), counts[what]);
        }
        x.act(1, 2, 0);
        Due.due("37: bodies", x.count(6), 4);
        Due.due("37: no such what", x.count(7), LadderClub.NONE);
        Due.due("37: no such what", x.count(-1), LadderClub.NONE);
    }
}
