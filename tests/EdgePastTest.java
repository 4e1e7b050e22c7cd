/** Promises 26 to 31 where their bounds are: no names and six, no matches and all, like ones, the last day and seed. */
public final class EdgePastTest {
    public static void main(String[] args) {
        rounds();
        sortsOfNone();
        sortsOfSix();
        sortsByStrength();
        roundsOfLikeOnes();
        rungsOfTheRounds();
        past();
        threes();
        neverAsked();
        order();
        orderOfSix();
        runDays();
        runLuck();
        runByTurns();
        Due.end();
    }

    private static void rounds() {
        LadderClub x = new LadderClub();
        Due.due("26: empty as they are", x.round(-1, -1), 0);
        int many = 0;
        for (int i = 0; i < 6; i++) {
            for (int j = 0; j < 6; j++) {
                many += i < j ? 1 : 0;
                Due.due("26: " + i + " " + j, x.round(i, j), i < j ? many : LadderClub.BAD);
                Due.due("37: how many", x.count(3), many);
            }
        }
        Due.due("26: fifteen, and no sixteenth", x.round(0, 1), LadderClub.FULL);
        Due.due("26: i -1 and a j that is not there", x.round(-1, 6), 0);
        for (int i = 1; i <= 15; i++) {
            Due.due("26: one again and again", x.round(4, 5), i);
        }
        Due.due("26: FULL", x.round(4, 5), LadderClub.FULL);
        Due.due("37: fifteen", x.count(3), 15);
    }

    private static void sortsOfNone() {
        LadderClub x = new LadderClub();
        Due.due("27: one", x.sorts(0), 1);
        Due.due("27: of one", x.sorts(1), 1);
        x.name();
        Due.due("27: one name", x.sorts(0), 1);
        Due.due("27: has one order", x.sorts(1), 1);
        x.name();
        x.chance(1, 0, 50);
        Due.due("27: like ones in any order", x.sorts(0), 2);
        x.chance(1, 0, 51);
        Due.due("27: one below the other", x.sorts(0), 1);
        x.chance(1, 0, 49);
        Due.due("27: the other below the one", x.sorts(0), 1);
        x.round(0, 1);
        Due.due("27: from both", x.sorts(0), 2);
        Due.due("27: of two", x.sorts(1), 2);
    }

    /** Six names, a lower number is stronger. */
    private static LadderClub inOrder() {
        LadderClub x = Clubs.names(6);
        for (int a = 0; a < 6; a++) {
            for (int b = 0; b < a; b++) {
                x.chance(b, a, 51);
            }
        }
        return x;
    }

    private static void play(LadderClub x, int... rungs) {
        x.round(-1, 0);
        for (int k = 0; k + 1 < rungs.length; k += 2) {
            x.round(rungs[k], rungs[k + 1]);
        }
    }

    private static void sortsOfSix() {
        LadderClub x = inOrder();
        Due.due("27: one of", x.sorts(0), 1);
        Due.due("27: all orders of six", x.sorts(1), 720);
        play(x, 4, 5);
        Due.due("27: one match, the lowest rungs", x.sorts(0), 2);
        play(x, 0, 5, 0, 5, 0, 5, 0, 5, 0, 5, 0, 5, 0, 5, 0, 5, 0, 5, 0, 5, 0, 5, 0, 5, 0, 5, 0, 5, 0, 5);
        Due.due("27: one match fifteen times", x.sorts(0), 2);
        play(x, 4, 5, 3, 4, 2, 3, 1, 2, 0, 1, 4, 5, 3, 4, 2, 3, 1, 2, 4, 5, 3, 4, 2, 3, 4, 5, 3, 4);
        Due.due("27: fourteen", x.sorts(0), 600);
        x.round(4, 5);
        Due.due("27: the fifteenth of its own worth", x.sorts(0), 720);
        play(x, 0, 5, 1, 3, 2, 4, 1, 2, 3, 4, 0, 3, 2, 5, 0, 1, 2, 3, 4, 5, 1, 2, 3, 4);
        Due.due("27: twelve are enough", x.sorts(0), 720);
        play(x, 3, 4, 1, 2, 4, 5, 2, 3, 0, 1, 2, 5, 0, 3, 3, 4, 1, 2, 2, 4, 1, 3, 0, 5);
        Due.due("27: but not from behind: in turn", x.sorts(0), 100);
        Due.due("27: the board stays", Clubs.board(x, 0), 1012345);
    }

    private static void sortsByStrength() {
        LadderClub x = inOrder();
        play(x, 0, 5, 1, 3, 2, 4, 1, 2, 3, 4, 0, 3, 2, 5, 0, 1, 2, 3, 4, 5, 1, 2, 3, 4);
        for (int a = 0; a < 6; a++) {
            for (int b = 0; b < a; b++) {
                x.chance(b, a, a - b <= 3 ? 100 : 0); // each is stronger than the next two, the first three than the third, too
            }
        }
        Due.due("27: some go round", x.sorts(0), 688);
        play(x);
        Due.due("27: right below alone", x.sorts(0), 41);
        play(x, 0, 1);
        Due.due("27: one match", x.sorts(0), 82);
        LadderClub y = Clubs.names(3);
        y.chance(0, 1, 51);
        y.chance(1, 2, 51);
        y.chance(2, 0, 51);
        Due.due("27: three go round", y.sorts(0), 3);
        play(y, 0, 2);
        Due.due("27: and are sorted never", y.sorts(0), 0);
        Due.due("27: of six", y.sorts(1), 6);
    }

    /** Like ones do not change rungs. */
    private static void roundsOfLikeOnes() {
        LadderClub x = Clubs.names(3);
        x.chance(0, 1, 51);
        Due.due("27: all but 1 0 2 and 2 1 0", x.sorts(0), 4);
        play(x, 0, 1, 0, 2);
        Due.due("27: all but 2 1 0", x.sorts(0), 5);
        play(x, 0, 2, 0, 1);
        Due.due("27: all but 2 1 0, the other way round", x.sorts(0), 5);
        play(x, 0, 1, 1, 2);
        Due.due("27: all", x.sorts(0), 6);
        x.chance(0, 1, 49);
        Due.due("27: 49 leaves 51 to the other", x.sorts(0), 6);
        x.chance(0, 1, 50);
        play(x, 0, 2, 0, 1);
        Due.due("27: 50 is not stronger", x.sorts(0), 6);
    }

    private static void rungsOfTheRounds() {
        for (int names = 0; names < 6; names++) {
            LadderClub x = Clubs.names(names);
            x.round(0, 5);
            for (int j = names; j < 6; j++) {
                x.round(-1, 0);
                if (names > 1) {
                    x.round(0, names - 1);
                    Due.due("27: the lowest rung is there", x.sorts(1) > 0);
                }
                x.round(0, Math.max(1, j));
                Due.due("27: rung " + Math.max(1, j) + " of " + names, x.sorts(0), LadderClub.STATE);
                Due.due("27: with 1, too", x.sorts(1), LadderClub.STATE);
            }
            x.round(-1, 0);
            Due.due("27: no rounds", x.sorts(1) > 0);
        }
    }

    private static void past() {
        LadderClub x = Clubs.names(6);
        int was = 0;
        for (int n : new int[] {0, 1, 98, 99, 0, 99}) {
            Due.due("28: " + n, x.past(5, 0, n), was);
            was = n;
        }
        Due.due("28: from the other side none", x.past(0, 5, 0), 0);
        Due.due("28: the others as at first", x.past(5, 1, 0) + x.past(1, 0, 0) + x.past(4, 0, 0), 0);
        Due.due("28: still", x.past(5, 0, 99), 99);
        Due.due("4: chances stay", x.beats(5, 0), 50);
    }

    private static void threes() {
        LadderClub x = Clubs.names(3);
        Due.due("29: no matches", x.really(0), 0);
        x.past(0, 1, 1);
        Due.due("29: one match", x.really(0), 0);
        x.past(1, 2, 1);
        Due.due("29: two matches", x.really(0), 0);
        x.past(0, 2, 1);
        Due.due("29: 0, 1, 2 go down", x.really(0), 0);
        x.past(2, 0, 1);
        Due.due("29: as often", x.really(0), 0);
        x.past(2, 0, 2);
        Due.due("29: once more", x.really(0), 1);
        x.past(1, 0, 1);
        Due.due("29: a and b as often", x.really(0), 0);
        x.past(1, 0, 0);
        x.past(2, 1, 1);
        Due.due("29: b and c as often", x.really(0), 0);
        x.past(2, 1, 99);
        x.past(1, 0, 99);
        x.past(0, 2, 99);
        Due.due("29: the other way round", x.really(0), 1);
        LadderClub y = Clubs.names(6);
        for (int a = 0; a < 6; a++) {
            y.past(a, (a + 1) % 6, 1);
            y.past(a, (a + 2) % 6, 1);
            y.past(a % 3, a % 3 + 3, 1);
        }
        Due.due("29: eight of twenty, each once", y.really(0), 8);
        Due.due("29: all fifteen pairs had a match", y.really(1), 0);
        Due.due("29: three were won from below", y.really(2), 3);
    }

    private static void neverAsked() {
        int pairs = 0;
        for (int names = 0; names <= 6; names++) {
            pairs += Math.max(0, names - 1);
            Due.due("29: pairs of " + names, Clubs.names(names).really(1), pairs);
        }
        LadderClub x = Clubs.names(6);
        x.past(5, 0, 1);
        Due.due("29: one won by the greater number", x.really(1), 14);
        x.past(0, 1, 1);
        Due.due("29: one won by the less", x.really(1), 13);
        x.past(0, 5, 99);
        Due.due("29: a pair is one pair", x.really(1), 13);
        x.past(0, 5, 0);
        x.past(5, 0, 0);
        Due.due("29: none again", x.really(1), 14);
    }

    private static long order(LadderClub x) {
        long digits = 1;
        for (int i = 0; i < x.count(0); i++) {
            digits = digits * 10 + x.order(i);
        }
        return digits;
    }

    private static void order() {
        LadderClub x = Clubs.names(1);
        Due.due("30: one name", x.order(0), 0);
        Due.due("30: and one place", x.order(1), LadderClub.NONE);
        x.name();
        Due.due("30: like ones by numbers", order(x), 101);
        x.past(1, 0, 1);
        Due.due("30: one match", order(x), 110);
        x.past(0, 1, 1);
        Due.due("30: as often", order(x), 101);
        Due.due("29: one is won from below", x.really(2), 1);
        x.past(1, 0, 99);
        Due.due("30: once against 99", order(x), 110);
        Due.due("29: still one", x.really(2), 1);
        LadderClub y = Clubs.names(3);
        y.past(0, 1, 1);
        y.past(1, 2, 1);
        y.past(2, 0, 1);
        Due.due("30: three go round: the first as a row", order(y), 1012);
        y.past(2, 0, 2);
        Due.due("30: 1 2 0 and 2 0 1 lose one: the first as a row", order(y), 1120);
        Due.due("29: one", y.really(2), 1);
    }

    private static void orderOfSix() {
        LadderClub x = Clubs.names(6);
        for (int a = 0; a < 6; a++) {
            for (int b = 0; b < 6; b++) {
                x.past(a, b, 99);
            }
        }
        Due.due("29: 99 of each pair", x.really(2), 1485);
        Due.due("30: like ones", order(x), 1012345);
        for (int a = 0; a < 6; a++) {
            for (int b = 0; b < a; b++) {
                x.past(b, a, 98);
            }
        }
        Due.due("30: the last of all orders", order(x), 1543210);
        Due.due("29: 98 of each pair", x.really(2), 1470);
        Due.due("30: not by chances or the board", Clubs.board(x, 1), 1012345);
    }

    private static LadderClub lowestNever(int names) {
        LadderClub x = Clubs.names(names, "up 1");
        for (int a = 0; a < names - 1; a++) {
            x.asker(a, 6, 0);
        }
        return x;
    }

    private static void runDays() {
        LadderClub x = Clubs.names(0, "up 1");
        for (int i = 1; i <= 10; i++) {
            Due.due("31: no names", x.run(0, 99, i * 99), 0);
            Due.due("31: 99 days later", x.count(2), 99 * i);
        }
        Due.due("31: to day 1000", x.run(0, 10, 0), LadderClub.BAD);
        Due.due("31: to day 999", x.run(0, 9, 999), 0);
        Due.due("31: the last day", x.run(0, 1, 0), LadderClub.BAD);
        Due.due("31: it is 999", x.count(2), 999);
        LadderClub y = Clubs.names(1, "up 9");
        Due.due("31: one name", y.run(0, 1, 0), 0);
        Due.due("31: a day later", y.count(2), 1);
    }

    /** SEED times 31 and DAY times 17, together, times 7 modulo 100; on days that are the lowest one's. */
    private static void runLuck() {
        int[][] luck = {{0, 0, 0}, {1, 0, 17}, {999, 0, 83}, {0, 2, 38}, {999, 998, 45}, {0, 998, 62}, {57, 0, 69},
            {500, 500, 0}, {47, 0, 99}};
        for (int[] l : luck) {
            for (int more = 0; more <= 1; more++) {
                LadderClub x = lowestNever(2);
                x.chance(1, 0, l[2] + more);
                for (int left = l[1]; left > 0; left -= Math.min(left, 99)) {
                    x.pass(Math.min(left, 99));
                }
                boolean stronger = l[2] + more > 50;
                boolean high = more == 1;
                Due.due("31: " + l[2] + " is below one more alone", x.run(0, 1, l[0]), high == stronger ? 0 : 1);
                Due.due("31: the board", Clubs.board(x, 0), high ? 110 : 101);
                Due.due("31: a day later", x.count(2), l[1] + 1);
            }
        }
        LadderClub y = lowestNever(2);
        y.chance(1, 0, 0);
        y.run(0, 98, 0);
        Due.due("31: 0 wins never, 0 on day 0 neither", Clubs.board(y, 0), 101);
        y.chance(1, 0, 100);
        y.run(0, 1, 47);
        Due.due("31: 100 wins always", Clubs.board(y, 0), 110);
    }

    private static void runByTurns() {
        LadderClub x = Clubs.names(6, "up 1");
        for (int a = 0; a < 6; a++) {
            for (int b = 0; b < a; b++) {
                x.chance(a, b, 100);
            }
        }
        Due.due("31: the lowest goes up one, then again", x.run(0, 2, 0), 13);
        Due.due("31: two turns of 5", Clubs.board(x, 0), 1012534);
        Due.due("31: the whole ladder up", x.run(0, 3, 0), 10);
        Due.due("31: to the highest rung", Clubs.board(x, 0), 1501234);
        Due.due("31: the highest one's turn", x.run(0, 1, 0), 10);
        Due.due("31: and from the lowest rung on", x.run(0, 4, 0), 6);
        Due.due("31: 4 next", Clubs.board(x, 0), 1540123);
        LadderClub y = Clubs.names(3, "up 2;shy d>0");
        y.chance(2, 0, 100);
        y.chance(2, 1, 100);
        y.asker(0, 6, 0);
        y.asker(1, 6, 0);
        y.asker(2, 2, 0);
        y.pass(1);
        Due.due("31: shy till day 21", y.run(0, 20, 0), 2);
        Due.due("31: day 21 of seven and of three", y.run(0, 1, 0), 0);
        Due.due("31: one goes on", y.count(2), 22);
    }
}
