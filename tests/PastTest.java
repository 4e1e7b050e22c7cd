/** Promises 26 to 31: rounds, the past, runs. */
public final class PastTest {
    public static void main(String[] args) {
        promise26();
        promise27();
        promise27Rounds();
        promise28();
        promise29();
        promise30();
        promise31();
        promise31Luck();
        promise31Refusals();
        Due.end();
    }

    private static void promise26() {
        LadderClub x = new LadderClub();
        Due.due("26: i not less than j", x.round(3, 3), LadderClub.BAD);
        Due.due("26: i above", x.round(4, 3), LadderClub.BAD);
        Due.due("26: j too great", x.round(0, 6), LadderClub.BAD);
        Due.due("26: both too great", x.round(6, 7), LadderClub.BAD);
        Due.due("26: i below -1", x.round(-2, 0), LadderClub.BAD);
        Due.due("26: j below 0", x.round(0, -1), LadderClub.BAD);
        for (int i = 0; i < 15; i++) {
            Due.due("26: how many", x.round(i % 5, 5), i + 1);
        }
        Due.due("26: a sixteenth", x.round(0, 1), LadderClub.FULL);
        Due.due("26: BAD ahead of FULL", x.round(1, 1), LadderClub.BAD);
        Due.due("26: still 15", x.count(3), 15);
        Due.due("26: empty, whatever the other is", x.round(-1, Integer.MIN_VALUE), 0);
        Due.due("26: none", x.count(3), 0);
        Due.due("26: the first again", x.round(0, 5), 1);
    }

    private static void promise27() {
        LadderClub x = new LadderClub();
        Due.due("27: without names one", x.sorts(0), 1);
        Due.due("27: of one", x.sorts(1), 1);
        int[] all = {1, 2, 6, 24, 120, 720};
        for (int i = 0; i < 6; i++) {
            x.name();
            Due.due("27: like ones are sorted", x.sorts(0), all[i]);
            Due.due("27: all", x.sorts(1), all[i]);
        }
        Due.due("27: no such what", x.sorts(2), LadderClub.NONE);
        Due.due("27: no such what", x.sorts(-1), LadderClub.NONE);
    }

    private static void promise27Rounds() {
        LadderClub x = Clubs.names(3);
        x.chance(2, 0, 60);
        x.chance(2, 1, 60);
        x.chance(1, 0, 60);
        Due.due("27: one order is sorted", x.sorts(0), 1);
        x.round(0, 1);
        Due.due("27: from 2 1 0 and 1 2 0", x.sorts(0), 2);
        x.round(1, 2);
        Due.due("27: but where 2 is the lowest", x.sorts(0), 4);
        x.round(0, 1);
        Due.due("27: from all", x.sorts(0), 6);
        x.round(-1, 0);
        x.round(0, 2);
        Due.due("27: 0 1 2 and 2 1 0", x.sorts(0), 2);
        x.chance(0, 2, 60);
        x.round(-1, 0);
        Due.due("27: 0 2 1, 2 1 0, 1 0 2 go round", x.sorts(0), 3);
        x.round(1, 3);
        Due.due("27: no rung 3", x.sorts(0), LadderClub.STATE);
        Due.due("27: no rung 3", x.sorts(1), LadderClub.STATE);
        Due.due("27: NONE ahead of STATE", x.sorts(2), LadderClub.NONE);
        x.name();
        Due.due("27: rung 3", x.sorts(1), 24);
    }

    private static void promise28() {
        LadderClub x = Clubs.names(2);
        Due.due("28: none so far", x.past(0, 1, 99), 0);
        Due.due("28: the other one's", x.past(1, 0, 5), 0);
        Due.due("28: so far", x.past(0, 1, 0), 99);
        Due.due("28: it is not added", x.past(0, 1, 3), 0);
        Due.due("28: no such name, ahead of BAD", x.past(2, 2, 100), LadderClub.NONE);
        Due.due("28: no such name", x.past(0, -1, 1), LadderClub.NONE);
        Due.due("28: one name", x.past(1, 1, 1), LadderClub.BAD);
        Due.due("28: above 99", x.past(0, 1, 100), LadderClub.BAD);
        Due.due("28: below 0", x.past(0, 1, -1), LadderClub.BAD);
        Due.due("28: as it was", x.past(0, 1, 3), 3);
    }

    private static void promise29() {
        LadderClub x = new LadderClub();
        Due.due("29: no names", x.really(0) + x.really(1) + x.really(2), 0);
        for (int i = 0; i < 4; i++) {
            x.name();
        }
        Due.due("29: no matches", x.really(1), 6);
        x.past(2, 1, 3);
        x.past(1, 2, 1);
        x.past(1, 0, 2);
        Due.due("29: four pairs left", x.really(1), 4);
        Due.due("29: nothing goes round", x.really(0), 0);
        x.past(0, 2, 1);
        Due.due("29: 0 2 1", x.really(0), 1);
        Due.due("29: 1 of 1 over 2, and 0 over 2", x.really(2), 2);
        x.past(2, 0, 1);
        Due.due("29: as often", x.really(0), 0);
        LadderClub y = Clubs.names(3);
        y.past(0, 1, 1);
        y.past(1, 2, 1);
        y.past(2, 0, 1);
        Due.due("29: 0 1 2", y.really(0), 1);
        x.past(2, 0, 0);
        x.past(3, 0, 1);
        x.past(1, 3, 1);
        Due.due("29: 3 0 2 1, no further three", x.really(0), 1);
        x.past(3, 0, 0);
        x.past(0, 3, 1);
        x.past(1, 3, 0);
        x.past(3, 1, 1);
        Due.due("29: 0 3 1, too", x.really(0), 2);
        Due.due("29: no such what", x.really(3), LadderClub.NONE);
        Due.due("29: no such what", x.really(-1), LadderClub.NONE);
    }

    private static long order(LadderClub x) {
        long digits = 1;
        for (int i = 0; i < x.count(0); i++) {
            digits = digits * 10 + x.order(i);
        }
        return digits;
    }

    private static void promise30() {
        LadderClub x = Clubs.names(3);
        x.hang(2, 0);
        Due.due("30: of several the first as a row, not the board", order(x), 1012);
        x.past(2, 0, 1);
        Due.due("30: 2 ahead of 0", order(x), 1120);
        x.past(1, 2, 2);
        x.past(0, 1, 3);
        Due.due("30: 0 1 2 loses one", order(x), 1012);
        x.past(2, 0, 9);
        Due.due("30: 1 2 0 loses three, 2 0 1 two", order(x), 1201);
        Due.due("30: the fewest", x.really(2), 2);
        Due.due("30: no such place", x.order(3), LadderClub.NONE);
        Due.due("30: no such place", x.order(-1), LadderClub.NONE);
        Due.due("30: no names", new LadderClub().order(0), LadderClub.NONE);
    }

    private static void promise31() {
        LadderClub x = Clubs.names(2, "up 1");
        x.chance(1, 0, 60);
        Due.due("31: a win makes it true", x.run(0, 1, 0), 0);
        Due.due("31: the board goes on", Clubs.board(x, 0), 110);
        Due.due("31: today is one more", x.count(2), 1);
        Due.due("31: a day on which the highest one's turn is", x.run(0, 1, 0), 0);
        Due.due("31: day 2 gives 238: 38 is below 40", x.run(0, 1, 0), 1);
        Due.due("31: today", x.count(2), 3);
        LadderClub y = Clubs.names(0, "up 1");
        Due.due("31: no names", y.run(0, 99, 999), 0);
        Due.due("31: but days", y.count(2), 99);
        LadderClub z = Clubs.names(3, "up 2;wins o;shy d=3");
        z.chance(2, 1, 100);
        z.chance(2, 0, 100);
        z.asker(0, 6, 0);
        z.asker(1, 6, 0);
        Due.due("31: 2 goes up one", z.run(0, 1, 999), 1);
        Due.due("31: 0 2 1, then the middle one's turn", z.run(0, 1, 999), 0);
        Due.due("31: all days of a run", z.run(0, 50, 5), 0);
    }

    private static void promise31Luck() {
        LadderClub x = Clubs.names(2, "up 1");
        x.chance(1, 0, 17);
        x.run(0, 1, 1); // 31 * 7 = 217
        Due.due("31: 17 is not below 17", Clubs.board(x, 0), 101);
        x.chance(1, 0, 30);
        x.pass(1);
        x.image();
        x.run(0, 1, 999); // (30969 + 34) * 7 = 217021
        Due.due("31: 21 is below 30", Clubs.board(x, 0), 110);
        x.undo();
        x.chance(1, 0, 21);
        x.run(0, 1, 999);
        Due.due("31: 21 is not below 21", Clubs.board(x, 0), 101);
        x.chance(1, 0, 100);
        x.chance(0, 1, 100);
        x.run(0, 30, 3);
        Due.due("31: CHANCE 0 wins never", Clubs.board(x, 0), 101);
    }

    private static void promise31Refusals() {
        LadderClub x = Clubs.names(2, "up 1");
        x.chance(1, 0, 100);
        Due.due("31: no such club, ahead of BAD", x.run(1, 0, 0), LadderClub.NONE);
        Due.due("31: no such club", x.run(-1, 1, 0), LadderClub.NONE);
        Due.due("31: no days", x.run(0, 0, 0), LadderClub.BAD);
        Due.due("31: 100 days", x.run(0, 100, 0), LadderClub.BAD);
        Due.due("31: seed below 0", x.run(0, 1, -1), LadderClub.BAD);
        Due.due("31: seed above 999", x.run(0, 1, 1000), LadderClub.BAD);
        for (int i = 0; i < 10; i++) {
            x.pass(99);
        }
        Due.due("31: beyond 999", x.run(0, 10, 0), LadderClub.BAD);
        Due.due("31: nothing changed", Clubs.board(x, 0) * 1000 + x.count(2), 101990);
        Due.due("31: until 999", x.run(0, 9, 0), 0);
        Due.due("31: today", x.count(2), 999);
        Due.due("31: no day is left", x.run(0, 1, 0), LadderClub.BAD);
    }
}
