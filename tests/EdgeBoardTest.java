/** Promises 1 to 7 where their bounds are: nothing, one, all six; chances of 0, 49, 50, 51 and 100. */
public final class EdgeBoardTest {
    public static void main(String[] args) {
        anEmptyBoard();
        sixNames();
        chances();
        strongerIsAbove50();
        hanging();
        farOff();
        Due.end();
    }

    /** Promise 1: each question there is, of a new object. */
    private static void anEmptyBoard() {
        LadderClub x = new LadderClub();
        int none = LadderClub.NONE;
        long no = LadderClub.NO;
        long[] got = {x.beats(0, 1), x.board(0, 0), x.board(0, 1), x.hang(0, 0), x.may(0, 0, 0), x.asks(0, 0, 0), x.match(0, 0, 1, true),
            x.likely(0, 0, 0), x.stuck(0, 0), x.ought(0, 1, 0), x.judged(0, 0), x.begin(0, 0, 0), x.order(0), x.run(0, 1, 0),
            x.trace(0), x.as(0, 0), x.chance(0, 1, 50), x.past(0, 1, 0), x.asker(0, 0, 0)};
        for (int i = 0; i < got.length; i++) {
            Due.due("1: there is no such name, rung, club, i: " + i, got[i], none);
        }
        Due.due("1: share", x.share(0, 0, 0, 0, 0), no);
        Due.due("1: truly", x.truly(0, 0, 0), no);
        Due.due("1: mean", x.mean(0, 0, 0, 0), no);
        Due.due("1: refuse", x.refuse(0, 0, 0, 0), no);
        Due.due("1: best", x.best(0), -5);
        Due.due("1: an order of none is sorted", x.sorts(0), 1);
        Due.due("1: nothing was", x.really(0) + x.really(1) + x.really(2), 0);
        Due.due("1: an act of nobody", x.act(0, 0, 9), 0);
        Due.due("1: no image", x.undo(), LadderClub.STATE);
        for (int what = 0; what < 7; what++) {
            Due.due("1: count " + what, x.count(what), 0);
        }
        Due.due("1: no name yet", x.name(), 0);
    }

    private static void sixNames() {
        LadderClub x = Clubs.names(5);
        x.image();
        Due.due("2: the sixth", x.name(), 5);
        Due.due("2: on the lowest rung", x.board(5, 0), 5);
        Due.due("2: a seventh", x.name(), LadderClub.FULL);
        Due.due("2: and again", x.name(), LadderClub.FULL);
        Due.due("2: still six", x.count(0), 6);
        x.undo();
        Due.due("2: the sixth again", x.name(), 5);
        LadderClub y = Clubs.names(1);
        for (int i = 1; i < 6; i++) {
            y.hang(i - 1, 0);
            Due.due("2: by numbers, whatever the board is", y.name(), i);
            Due.due("2: the newest is the lowest", y.board(i, 0), i);
        }
    }

    private static void chances() {
        LadderClub x = Clubs.names(6);
        for (int a = 0; a < 6; a++) {
            for (int b = 0; b < 6; b++) {
                Due.due("4: at first " + a + " " + b, x.beats(a, b), a == b ? LadderClub.BAD : 50);
            }
        }
        int was = 50;
        for (int n : new int[] {0, 1, 49, 50, 51, 99, 100, 0, 100}) {
            Due.due("3: becomes " + n, x.chance(5, 0, n), was);
            Due.due("4: is " + n, x.beats(5, 0), n);
            Due.due("4: what is left of " + n, x.beats(0, 5), 100 - n);
            was = n;
        }
        Due.due("3: from the other side", x.chance(0, 5, 1), 0);
        Due.due("4: the others as at first", x.beats(5, 1) + x.beats(1, 0) + x.beats(0, 4), 150);
    }

    private static void strongerIsAbove50() {
        LadderClub x = Clubs.names(6);
        Due.due("5: all alike", Clubs.board(x, 1), 1012345);
        x.chance(5, 0, 50);
        Due.due("5: 50 is not above 50", Clubs.board(x, 1), 1012345);
        x.chance(5, 0, 51);
        Due.due("5: 51 is", Clubs.board(x, 1), 1501234);
        x.chance(5, 0, 49);
        Due.due("5: 49 leaves 51 to the other", Clubs.board(x, 1), 1012345);
        x.chance(0, 3, 51);
        x.chance(4, 3, 100);
        Due.due("5: 0 than two, 4 than one, the others than none", Clubs.board(x, 1), 1041235);
        for (int a = 0; a < 6; a++) {
            for (int b = 0; b < a; b++) {
                x.chance(a, b, 51);
            }
        }
        Due.due("5: than five, four and so on", Clubs.board(x, 1), 1543210);
        Due.due("5: the highest", x.board(0, 1), 5);
        Due.due("5: the lowest", x.board(5, 1), 0);
        Due.due("5: the board is as the names came", Clubs.board(x, 0), 1012345);
        LadderClub y = Clubs.names(1);
        Due.due("5: one name", y.board(0, 1), 0);
        Due.due("5: and one rung", y.board(1, 1), LadderClub.NONE);
    }

    private static void hanging() {
        LadderClub x = Clubs.names(6);
        Due.due("6: the lowest to the highest rung", x.hang(5, 0), 5);
        Due.due("6: all others go down one", Clubs.board(x, 0), 1501234);
        Due.due("6: the highest to the lowest rung", x.hang(5, 5), 0);
        Due.due("6: all others go up one", Clubs.board(x, 0), 1012345);
        Due.due("6: one rung down", x.hang(2, 3), 2);
        Due.due("6: one changes with it", Clubs.board(x, 0), 1013245);
        Due.due("6: one rung up", x.hang(2, 2), 3);
        Due.due("6: and back", Clubs.board(x, 0), 1012345);
        Due.due("6: where it is", x.hang(5, 5), 5);
        Due.due("6: where it is, the highest", x.hang(0, 0), 0);
        Due.due("6: nobody moved", Clubs.board(x, 0), 1012345);
        x.hang(1, 4);
        Due.due("6: those between alone", Clubs.board(x, 0), 1023415);
        Due.due("6: one name", Clubs.names(1).hang(0, 0), 0);
    }

    private static void farOff() {
        Due.due("7: no names", new LadderClub().far(), 0);
        Due.due("7: one name", Clubs.names(1).far(), 0);
        LadderClub x = Clubs.names(2);
        Due.due("7: of like ones by numbers", x.far(), 0);
        x.chance(1, 0, 51);
        Due.due("7: one pair", x.far(), 1);
        x.hang(1, 0);
        Due.due("7: none now", x.far(), 0);
        LadderClub y = Clubs.names(6);
        for (int far = 0; far < 6; far++) {
            Due.due("7: the lowest so much higher", y.far(), far);
            y.hang(5, 4 - Math.min(far, 4));
        }
        for (int i = 1; i < 6; i++) {
            y.hang(i, 0);
        }
        Due.due("7: all fifteen pairs", y.far(), 15);
    }
}
