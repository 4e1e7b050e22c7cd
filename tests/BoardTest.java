/** Promises 1 to 7: names, chances, the board. */
public final class BoardTest {
    public static void main(String[] args) {
        promise1();
        promise2();
        promise3and4();
        promise5();
        promise6();
        promise7();
        Due.end();
    }

    private static void promise1() {
        LadderClub x = new LadderClub();
        for (int what = 0; what < 7; what++) {
            Due.due("1: count(" + what + ") of a new one", x.count(what), 0);
        }
        Due.due("1: board(0, 0) of a new one", x.board(0, 0), LadderClub.NONE);
        Due.due("1: far() of a new one", x.far(), 0);
        Due.due("1: undo() of a new one", x.undo(), LadderClub.STATE);
        Due.due("1: club() of a new one", x.club(), -10);
        Due.due("1: trace(0) of a new one", x.trace(0), LadderClub.NONE);
        Due.due("1: round(0, 1) of a new one", x.round(0, 1), 1);
    }

    private static void promise2() {
        LadderClub x = new LadderClub();
        for (int i = 0; i < 6; i++) {
            Due.due("2: name()", x.name(), i);
            Due.due("2: the newest is the lowest", x.board(i, 0), i);
        }
        String before = Clubs.all(x);
        Due.due("2: a seventh", x.name(), LadderClub.FULL);
        Due.due("2: nothing changed", before.equals(Clubs.all(x)));
        LadderClub y = Clubs.names(2);
        y.hang(1, 0);
        y.name();
        Due.due("2: behind a board that was changed", Clubs.board(y, 0), 1102);
    }

    private static void promise3and4() {
        LadderClub x = Clubs.names(3);
        Due.due("4: at first", x.beats(2, 0), 50);
        Due.due("3: what it was", x.chance(2, 0, 70), 50);
        Due.due("4: beats", x.beats(2, 0), 70);
        Due.due("4: what is left", x.beats(0, 2), 30);
        Due.due("3: from the other side", x.chance(0, 2, 100), 30);
        Due.due("4: none left", x.beats(2, 0), 0);
        Due.due("3: none", x.chance(0, 2, 0), 100);
        String before = Clubs.all(x);
        Due.due("3: NONE ahead of BAD", x.chance(3, 3, 101), LadderClub.NONE);
        Due.due("3: NONE for b", x.chance(0, -1, 50), LadderClub.NONE);
        Due.due("3: one name", x.chance(1, 1, 50), LadderClub.BAD);
        Due.due("3: above 100", x.chance(0, 1, 101), LadderClub.BAD);
        Due.due("3: below 0", x.chance(0, 1, -1), LadderClub.BAD);
        Due.due("3: nothing changed", before.equals(Clubs.all(x)));
        Due.due("4: NONE", x.beats(3, 3), LadderClub.NONE);
        Due.due("4: NONE for b", x.beats(0, Integer.MIN_VALUE), LadderClub.NONE);
        Due.due("4: one name", x.beats(1, 1), LadderClub.BAD);
    }

    private static void promise5() {
        LadderClub x = Clubs.names(4);
        Due.due("5: of like ones by numbers", Clubs.board(x, 1), 10123);
        x.chance(3, 0, 51);
        x.chance(3, 1, 51);
        x.chance(2, 3, 100);
        x.hang(3, 0);
        Due.due("5: the board", Clubs.board(x, 0), 13012);
        Due.due("5: the true one: 3 stronger than two, 2 than one", Clubs.board(x, 1), 13201);
        x.chance(3, 1, 50);
        Due.due("5: like ones, 2 and 3", Clubs.board(x, 1), 12301);
        Due.due("5: no such rung", x.board(4, 0), LadderClub.NONE);
        Due.due("5: no such rung above", x.board(-1, 1), LadderClub.NONE);
        Due.due("5: no such what", x.board(0, 2), LadderClub.NONE);
        Due.due("5: no such what", x.board(0, -1), LadderClub.NONE);
    }

    private static void promise6() {
        LadderClub x = Clubs.names(5);
        Due.due("6: down", x.hang(1, 3), 1);
        Due.due("6: those between went up", Clubs.board(x, 0), 102314);
        Due.due("6: up", x.hang(4, 0), 4);
        Due.due("6: those between went down", Clubs.board(x, 0), 140231);
        Due.due("6: where it is", x.hang(2, 2), 2);
        Due.due("6: no one moves", Clubs.board(x, 0), 140231);
        Due.due("6: no such rung", x.hang(0, 5), LadderClub.NONE);
        Due.due("6: no such rung", x.hang(0, -1), LadderClub.NONE);
        Due.due("6: no such name", x.hang(5, 0), LadderClub.NONE);
        Due.due("6: nothing changed", Clubs.board(x, 0), 140231);
    }

    private static void promise7() {
        LadderClub x = Clubs.names(4);
        Due.due("7: as it is true", x.far(), 0);
        x.hang(3, 0);
        Due.due("7: one ahead of three", x.far(), 3);
        x.chance(3, 2, 90);
        Due.due("7: it is the strongest now", x.far(), 0);
        LadderClub y = Clubs.names(6);
        for (int a = 0; a < 6; a++) {
            for (int b = 0; b < a; b++) {
                y.chance(a, b, 60);
            }
        }
        Due.due("7: all the other way round", y.far(), 15);
    }
}
