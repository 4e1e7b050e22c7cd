/** Promises 15 to 25: what is behind days, and what is best. */
public final class DaysTest {
    private static final long NO = LadderClub.NO;

    public static void main(String[] args) {
        promise15();
        promise15Refusals();
        promise16();
        promise17();
        promise18();
        promise19();
        promise19Days();
        promise20();
        promise20Later();
        promise21();
        promise22();
        promise23();
        promise24();
        promise25();
        Due.end();
    }

    /** Two names, the lower one of whom wins 60 of 100. */
    private static LadderClub two() {
        LadderClub x = Clubs.names(2, "up 1");
        x.chance(1, 0, 60);
        return x;
    }

    private static void share(String what, LadderClub x, int n, int name, int rung, long above, long below) {
        Due.due("15: " + what + ", above", x.share(0, n, name, rung, 0), above);
        Due.due("15: " + what + ", below", x.share(0, n, name, rung, 1), below);
    }

    private static void promise15() {
        LadderClub x = two();
        share("now", x, 0, 1, 1, 1, 1);
        share("now elsewhere", x, 0, 1, 0, 0, 1);
        share("a day", x, 1, 1, 0, 3, 5);
        share("a day, the other one", x, 1, 1, 1, 2, 5);
        share("the highest one's turn", x, 2, 1, 0, 3, 5);
        share("0 asks, too: 60 * 60 + 40 * 60", x, 3, 1, 0, 3, 5);
        x.asker(0, 6, 0);
        share("0 never asks: 60 + 40 * 60", x, 3, 1, 0, 21, 25);
        share("and once more", x, 6, 1, 0, 117, 125);
        x.pass(1);
        share("from tomorrow on nobody's turn", x, 1, 1, 0, 0, 1);
        Due.due("15: the board is as it was", Clubs.board(x, 0), 101);
        for (int i = 0; i < 10; i++) {
            x.pass(99);
        }
        x.pass(8);
        share("beyond 999 (999: nobody, 1000: 1)", x, 2, 1, 0, 3, 5);
        LadderClub y = Clubs.names(6, "up 5;shy d=1");
        y.chance(5, 0, 1);
        y.asker(5, 2, 0);
        share("one of a hundred", y, 1, 5, 0, 1, 100);
        y.pass(1);
        share("shy on day 1 (that 4 asks on)", y, 1, 4, 3, 0, 1);
    }

    private static void promise15Refusals() {
        LadderClub x = two();
        int[][] wrong = {{1, 0, 0, 0, 0}, {-1, 0, 0, 0, 0}, {0, 7, 0, 0, 0}, {0, -1, 0, 0, 0}, {0, 0, 2, 0, 0}, {0, 0, -1, 0, 0},
            {0, 0, 0, 2, 0}, {0, 0, 0, -1, 0}, {0, 0, 0, 0, 2}, {0, 0, 0, 0, -1}};
        for (int[] w : wrong) {
            Due.due("15: NO " + java.util.Arrays.toString(w), x.share(w[0], w[1], w[2], w[3], w[4]), NO);
            if (w[3] == 0) {
                Due.due("18: NO " + java.util.Arrays.toString(w), x.mean(w[0], w[1], w[2], w[4]), NO);
                Due.due("23: NO " + java.util.Arrays.toString(w), x.refuse(w[0], w[1], w[2], w[4]), NO);
            }
            if (w[2] == 0 && w[3] == 0) {
                Due.due("16: NO " + java.util.Arrays.toString(w), x.truly(w[0], w[1], w[4]), NO);
            }
        }
        Due.due("15: six days", x.share(0, 6, 0, 0, 0) != NO);
    }

    private static void promise16() {
        LadderClub x = two();
        Due.due("16: now", x.truly(0, 0, 0), 0);
        Due.due("16: below", x.truly(0, 0, 1), 1);
        Due.due("16: a day", x.truly(0, 1, 0), 3);
        Due.due("16: a day, below", x.truly(0, 1, 1), 5);
        x.hang(1, 0);
        Due.due("16: true now", x.truly(0, 0, 0), 1);
        Due.due("16: 0 asks", x.truly(0, 1, 0), 3);
        LadderClub y = Clubs.names(0, "up 1");
        Due.due("16: no names", y.truly(0, 0, 0), NO);
        y.name();
        Due.due("16: one name", y.truly(0, 6, 0), 1);
        Due.due("16: one name, below", y.truly(0, 6, 1), 1);
    }

    private static void promise17() {
        LadderClub x = two();
        Due.due("17: now", x.likely(0, 0, 0), 0);
        Due.due("17: a day", x.likely(0, 1, 0), 1);
        Due.due("17: the lower rung", x.likely(0, 1, 1), 0);
        x.chance(1, 0, 50);
        Due.due("17: of like ones the first", x.likely(0, 1, 0), 0);
        x.hang(1, 0);
        Due.due("17: of like ones the first, not the one that is", x.likely(0, 1, 0), 0);
        Due.due("17: no such club, ahead of BAD", x.likely(1, 7, 0), LadderClub.NONE);
        Due.due("17: no such rung, ahead of BAD", x.likely(0, 7, 2), LadderClub.NONE);
        Due.due("17: no such rung", x.likely(0, 0, -1), LadderClub.NONE);
        Due.due("17: seven days", x.likely(0, 7, 0), LadderClub.BAD);
        Due.due("17: less than none", x.likely(0, -1, 0), LadderClub.BAD);
        LadderClub y = Clubs.names(3, "up 2;wins c");
        y.chance(2, 0, 50);
        y.chance(2, 1, 0);
        y.hang(0, 1); // 1 0 2
        y.asker(2, 1, 0);
        Due.due("17: 1 2 0 or 1 0 2", y.likely(0, 1, 1), 0);
        y.asker(1, 6, 0);
        y.asker(0, 6, 0);
        Due.due("17: two ways to a board count together", y.likely(0, 4, 1), 2);
        LadderClub z = Clubs.names(3, "up 1");
        z.chance(2, 1, 60);
        z.chance(2, 0, 50);
        z.chance(1, 0, 10);
        Due.due("17: 0 2 1: 3 of 10; 2 0 1: 3; 0 1 2: 36; 1 0 2: 4", z.likely(0, 2, 1), 1);
    }

    private static void mean(String what, LadderClub x, int n, int name, long above, long below) {
        Due.due("18: " + what + ", above", x.mean(0, n, name, 0), above);
        Due.due("18: " + what + ", below", x.mean(0, n, name, 1), below);
    }

    private static void promise18() {
        LadderClub x = two();
        mean("now", x, 0, 1, 1, 1);
        mean("the highest", x, 0, 0, 0, 1);
        mean("a day", x, 1, 1, 2, 5);
        mean("a day, the other one", x, 1, 0, 3, 5);
        LadderClub y = Clubs.names(3, "up 2");
        y.chance(2, 0, 25);
        y.asker(2, 2, 0);
        mean("25 of 100 on rung 0, else on 2", y, 1, 2, 3, 2);
        mean("pushed down from rung 1", y, 1, 1, 5, 4);
        Clubs.club(y, "up 2;wins o");
        Due.due("18: one rung up", y.mean(1, 1, 2, 0), 7);
        Due.due("18: one rung up", y.mean(1, 1, 2, 1), 4);
    }

    private static void promise19() {
        LadderClub x = Clubs.names(3, "up 1");
        Due.due("19: nobody is stronger", x.stuck(0, 0) + x.stuck(0, 1), 0);
        x.chance(2, 0, 51);
        Due.due("19: 2 never asks 0", x.stuck(0, 0), 4);
        Due.due("19: but 1 does", x.stuck(0, 1), 0);
        x.asker(1, 6, 0);
        Due.due("19: nobody asks 0", x.stuck(0, 1), 1);
        x.chance(1, 0, 51);
        Due.due("19: 1, too", x.stuck(0, 0), 6);
        x.asker(1, 0, 0);
        Due.due("19: 1 asks", x.stuck(0, 0), 4);
        Clubs.club(x, "up 2");
        Due.due("19: 2 asks 0", x.stuck(1, 0), 0);
        x.chance(2, 1, 60);
        Due.due("19: 2 asks 1 then, not 0", x.stuck(1, 0), 4);
        x.asker(2, 5, 0);
        Due.due("19: 0 then, not 1", x.stuck(1, 0), 4);
        Due.due("19: and 1 hangs", x.stuck(1, 1), 0b010);
        x.chance(2, 1, 40);
        Due.due("19: 1 does not, if 2 is weaker", x.stuck(1, 1), 0);
        x.hang(0, 2); // 1 2 0
        Due.due("19: the stronger stand higher", x.stuck(1, 0) + x.stuck(1, 1), 0);
        Due.due("19: no such club", x.stuck(2, 0), LadderClub.NONE);
        Due.due("19: no such club", x.stuck(-1, 1), LadderClub.NONE);
        Due.due("19: no such what", x.stuck(0, 2), LadderClub.NONE);
        Due.due("19: no such what", x.stuck(0, -1), LadderClub.NONE);
        Due.due("19: no names", Clubs.names(0, "up 1").stuck(0, 0), 0);
    }

    private static void promise19Days() {
        LadderClub x = Clubs.names(2, "up 1;shy d<6");
        x.chance(1, 0, 51);
        Due.due("19: on day 6", x.stuck(0, 0) + x.stuck(0, 1), 0);
        x.pass(3);
        Due.due("19: days 0 .. 6, whatever today is", x.stuck(0, 0), 0);
        Clubs.club(x, "up 1;shy d<7");
        Due.due("19: on none", x.stuck(1, 0), 2);
        Due.due("19: on none", x.stuck(1, 1), 1);
        Clubs.club(x, "up 1;shy d>0");
        Due.due("19: on day 0", x.stuck(2, 0), 0);
        LadderClub y = Clubs.names(3, "up 1");
        y.hang(0, 1); // 1 0 2
        y.chance(2, 1, 60);
        Due.due("19: 0 alone asks 1", y.stuck(0, 1), 0);
    }

    private static void promise20() {
        LadderClub x = Clubs.names(3, "up 2");
        x.chance(2, 0, 10);
        x.chance(2, 1, 90);
        Due.due("20: 1.1 by 1, 1.8 by 0", x.ought(0, 1, 2), 1);
        x.chance(2, 0, 40);
        x.chance(2, 1, 80);
        Due.due("20: of like ones the least name", x.ought(0, 1, 2), 0);
        x.hang(1, 0); // 1 0 2
        x.chance(2, 1, 40);
        x.chance(2, 0, 80);
        Due.due("20: the least name, not the highest", x.ought(0, 1, 2), 0);
        x.chance(2, 0, 0);
        x.chance(2, 1, 0);
        Due.due("20: of like ones nobody", x.ought(0, 1, 2), -5);
        x.chance(2, 0, 1);
        x.asker(2, 6, 0);
        Due.due("20: whatever its kind", x.ought(0, 1, 2), 0);
        Clubs.club(x, "up 0");
        Due.due("20: it may ask nobody", x.ought(1, 6, 2), -5);
        Due.due("20: no such club, ahead of BAD", x.ought(2, 0, 2), LadderClub.NONE);
        Due.due("20: no such name, ahead of BAD", x.ought(0, 0, 3), LadderClub.NONE);
        Due.due("20: no days, ahead of STATE", x.ought(0, 0, 1), LadderClub.BAD);
        Due.due("20: seven days", x.ought(0, 7, 2), LadderClub.BAD);
        Due.due("20: not its turn", x.ought(0, 1, 0), LadderClub.STATE);
        x.pass(1);
        Due.due("20: not its turn now", x.ought(0, 1, 2), LadderClub.STATE);
        Due.due("20: its turn", x.ought(0, 1, 0), 1);
        x.pass(1);
        Due.due("20: the highest one's turn", x.ought(0, 1, 1), -5);
        x.pass(1);
        Due.due("20: the lowest one's again", x.ought(0, 1, 2), 0);
    }

    private static void promise20Later() {
        // 2 wins over 0 surely, and asks it on its next turn by its kind, if it may: only from rung 2, on day 3.
        LadderClub x = Clubs.names(3, "up 2;wins c;shy d=0&b=0;shy r=1");
        x.chance(2, 0, 100);
        x.chance(2, 1, 30);
        x.asker(2, 2, 0);
        x.asker(1, 6, 0);
        x.asker(0, 6, 0);
        Due.due("20: today 1", x.ought(0, 1, 2), 1);
        Due.due("20: later it does better from rung 2", x.ought(0, 4, 2), -5);
        LadderClub y = Clubs.names(3, "up 2");
        y.chance(2, 0, 60);
        y.chance(2, 1, 100);
        y.asker(1, 6, 0);
        y.asker(0, 6, 0);
        Due.due("20: 0.8 by 0, 1 by 1", y.ought(0, 1, 2), 0);
        Due.due("20: 1 first, then 0 from rung 1 tomorrow", y.ought(0, 2, 2), 1);
        y.pass(6);
        Due.due("20: on a later day", y.ought(0, 2, 2), 1);
        Clubs.club(y, "up 2;shy d=0&r=1");
        Due.due("20: tomorrow it may not", y.ought(1, 2, 2), 0);
    }

    private static void promise21() {
        LadderClub x = new LadderClub();
        for (int i = 0; i < 6; i++) {
            Due.due("21: how many", x.row(i), i + 1);
        }
        Due.due("21: a seventh", x.row(-1), LadderClub.FULL);
        Due.due("21: BAD ahead of FULL", x.row(6), LadderClub.BAD);
        Due.due("21: below -2", x.row(-3), LadderClub.BAD);
        Due.due("21: still six", x.count(4), 6);
        Due.due("21: empty", x.row(-2), 0);
        Due.due("21: none", x.count(4), 0);
        Due.due("21: nobody", x.row(-1), 1);
        Due.due("21: one", x.count(4), 1);
    }

    private static void tell(LadderClub x, int... names) {
        x.row(-2);
        for (int name : names) {
            x.row(name);
        }
    }

    private static void promise22() {
        LadderClub x = Clubs.names(3, "up 2;shy d=1");
        x.asker(2, 2, 0);
        tell(x, -1, 0, 0);
        Due.due("22: as they ask", x.judged(0, 0), -5);
        Due.due("22: on day 1 nobody does", x.judged(0, 1), 1);
        Due.due("22: on day 1 nobody does", x.judged(0, 8), 1);
        tell(x, -1, -1, -1);
        Due.due("22: on day 1", x.judged(0, 1), -5);
        Due.due("22: the first that does not", x.judged(0, 0), 1);
        tell(x, -1, 0, 1);
        Due.due("22: 2 asks 0", x.judged(0, 999), 2);
        tell(x, 5, 0, 0);
        Due.due("22: 0 asks nobody", x.judged(0, 0), 0);
        x.hang(0, 2); // 1 2 0: 0 may ask both
        tell(x, 2, -1, 1);
        Due.due("22: for each name by numbers", x.judged(0, 0), -5);
        tell(x, 2, -1);
        Due.due("22: too short", x.judged(0, 0), LadderClub.STATE);
        tell(x, 2, -1, 1, 1);
        Due.due("22: too long", x.judged(0, 0), LadderClub.STATE);
        Due.due("22: no such club, ahead of BAD", x.judged(1, -1), LadderClub.NONE);
        Due.due("22: no such day, ahead of STATE", x.judged(0, -1), LadderClub.BAD);
        Due.due("22: no such day", x.judged(0, 1000), LadderClub.BAD);
        Due.due("22: no names, no row", Clubs.names(0, "up 1").judged(0, 0), -5);
    }

    private static void refuse(String what, LadderClub x, int n, int name, long above, long below) {
        Due.due("23: " + what + ", above", x.refuse(0, n, name, 0), above);
        Due.due("23: " + what + ", below", x.refuse(0, n, name, 1), below);
    }

    private static void promise23() {
        LadderClub x = two();
        refuse("it stays on top", x, 1, 0, 3, 5);
        refuse("nothing for who is lowest", x, 1, 1, 0, 1);
        refuse("nothing in no days", x, 0, 0, 0, 1);
        LadderClub y = Clubs.names(3, "up 2");
        y.asker(2, 1, 0);
        y.chance(2, 1, 10);
        y.chance(2, 0, 90);
        refuse("2 asks 0 then, and pushes 1 down: 1.1 less 1.9", y, 1, 1, -4, 5);
        Due.due("23: afterwards all may be asked", y.asks(0, 2, 0), 1);
    }

    private static void promise24() {
        LadderClub x = two();
        Due.due("24: now", x.begin(0, 0, 1), 0);
        Due.due("24: now, the other one", x.begin(0, 0, 0), 1);
        Due.due("24: a day: 60 from below, 60 from above: the highest", x.begin(0, 1, 1), 0);
        x.chance(1, 0, 100);
        Due.due("24: 100 either way: the highest", x.begin(0, 1, 0), 0);
        x.asker(1, 6, 0);
        Due.due("24: 1 never asks", x.begin(0, 1, 0), 1);
        Due.due("24: the board is as it was", Clubs.board(x, 0), 101);
        LadderClub y = Clubs.names(4, "up 1");
        y.chance(3, 2, 60);
        y.chance(3, 1, 60);
        y.chance(2, 1, 60);
        y.chance(0, 1, 60);
        y.chance(0, 3, 60); // true: 0 (2), 3 (2), 2, 1
        Due.due("24: never true by one: the highest", y.begin(0, 0, 1), 0);
        y.hang(1, 0); // 1 0 2 3
        Due.due("24: still not", y.begin(0, 0, 1), 0);
        y.hang(3, 2); // 1 0 3 2
        Due.due("24: the lowest", y.begin(0, 0, 1), 3);
        Due.due("24: no such club, ahead of BAD", y.begin(1, 7, 0), LadderClub.NONE);
        Due.due("24: no such name, ahead of BAD", y.begin(0, 7, 4), LadderClub.NONE);
        Due.due("24: seven days", y.begin(0, 7, 0), LadderClub.BAD);
        Due.due("24: less than none", y.begin(0, -1, 0), LadderClub.BAD);
    }

    private static void promise25() {
        LadderClub x = new LadderClub();
        Due.due("25: no clubs, no names", x.best(0), -5);
        Due.due("25: seven days", x.best(7), LadderClub.BAD);
        Due.due("25: less than none", x.best(-1), LadderClub.BAD);
        x.name();
        Due.due("25: no clubs", x.best(6), -5);
        Due.due("25: no names", Clubs.names(0, "up 1").best(0), -5);
        LadderClub y = Clubs.names(2, "up 0");
        Clubs.club(y, "up 1");
        Clubs.club(y, "up 1;wins c");
        y.chance(1, 0, 60);
        Due.due("25: none is better now", y.best(0), 0);
        Due.due("25: the first that lets them", y.best(1), 1);
        y.hang(1, 0);
        Due.due("25: best as it is", y.best(1), 0);
    }
}
