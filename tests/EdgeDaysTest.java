/** Promises 15 to 25 where their bounds are: none to six days, beyond day 999, chances of 0 and 100, like ones. */
public final class EdgeDaysTest {
    private static final long NO = LadderClub.NO;

    public static void main(String[] args) {
        sixDays();
        lowestTerms();
        sureChances();
        beyond999();
        beyond999Asking();
        onlyWithin();
        whoseTurn();
        oneName();
        likeliest();
        waysTogether();
        stuckAndHanging();
        stuckOnTheseDays();
        ought();
        oughtByDays();
        rows();
        judged();
        refusing();
        beginning();
        best();
        Due.end();
    }

    /** Six names of whom each asks the one above, as its turn comes, with the same chance. */
    private static LadderClub six(int chance) {
        LadderClub x = Clubs.names(6, "up 1");
        for (int a = 0; a < 6; a++) {
            for (int b = 0; b < a; b++) {
                x.chance(a, b, chance);
            }
        }
        return x;
    }

    private static void part(String what, long above, long below, long dueAbove, long dueBelow) {
        Due.due(what + ", above", above, dueAbove);
        Due.due(what + ", below", below, dueBelow);
    }

    private static void sixDays() {
        LadderClub x = six(1);
        long whole = 10_000_000_000L;
        for (int n = 5; n <= 6; n++) { // on the sixth day the highest has nobody to ask
            part("15: five wins of one, " + n, x.share(0, n, 5, 0, 0), x.share(0, n, 5, 0, 1), 1, whole);
            part("16: five losses, " + n, x.truly(0, n, 0), x.truly(0, n, 1), 9_509_900_499L, whole);
            part("18: 5 less 1, 2 .. wins, " + n, x.mean(0, n, 5, 0), x.mean(0, n, 5, 1), 49_898_989_899L, whole);
            part("23: nobody may ask 0, " + n, x.refuse(0, n, 0, 0), x.refuse(0, n, 0, 1), 1, 100);
        }
        part("15: four wins", x.share(0, 4, 5, 1, 0), x.share(0, 4, 5, 1, 1), 1, 100_000_000);
        part("16: four losses", x.truly(0, 4, 0), x.truly(0, 4, 1), 96_059_601, 100_000_000);
        part("15: none in no days", x.share(0, 0, 5, 0, 0), x.share(0, 0, 5, 0, 1), 0, 1);
        part("16: true in no days", x.truly(0, 0, 0), x.truly(0, 0, 1), 1, 1);
        part("18: as it is", x.mean(0, 0, 5, 0), x.mean(0, 0, 5, 1), 5, 1);
        part("18: as it is", x.mean(0, 0, 0, 0), x.mean(0, 0, 0, 1), 0, 1);
        part("23: nothing in no days", x.refuse(0, 0, 0, 0), x.refuse(0, 0, 0, 1), 0, 1);
    }

    private static void lowestTerms() {
        LadderClub x = Clubs.names(2, "up 1");
        int[][] terms = {{0, 0, 1}, {1, 1, 100}, {2, 1, 50}, {4, 1, 25}, {5, 1, 20}, {10, 1, 10}, {20, 1, 5}, {25, 1, 4}, {33, 33, 100},
            {50, 1, 2}, {75, 3, 4}, {98, 49, 50}, {99, 99, 100}, {100, 1, 1}};
        for (int[] t : terms) {
            x.chance(1, 0, t[0]);
            part("15: " + t[0], x.share(0, 1, 1, 0, 0), x.share(0, 1, 1, 0, 1), t[1], t[2]);
            part("18: " + t[0], x.mean(0, 1, 0, 0), x.mean(0, 1, 0, 1), t[1], t[2]);
            part("23: " + t[0], x.refuse(0, 1, 0, 0), x.refuse(0, 1, 0, 1), t[1], t[2]);
            boolean stronger = t[0] > 50; // else it is true that 0 stands above 1
            part("16: " + t[0], x.truly(0, 1, 0), x.truly(0, 1, 1), stronger ? t[1] : t[2] - t[1], t[2]);
        }
    }

    private static void sureChances() {
        for (String wins : new String[] {"t", "c", "o"}) {
            LadderClub x = Clubs.names(3, "up 2;wins " + wins);
            x.asker(2, 2, 0);
            x.chance(2, 0, 100);
            int rung = wins.equals("o") ? 1 : 0;
            part("15: sure, " + wins, x.share(0, 1, 2, rung, 0), x.share(0, 1, 2, rung, 1), 1, 1);
            part("15: and not elsewhere, " + wins, x.share(0, 1, 2, 2, 0), x.share(0, 1, 2, 2, 1), 0, 1);
            part("18: sure, " + wins, x.mean(0, 1, 2, 0), x.mean(0, 1, 2, 1), rung, 1);
            Due.due("17: sure, " + wins, x.likely(0, 1, rung), 2);
            Due.due("18: 0 then, " + wins, x.mean(0, 1, 0, 0), wins.equals("t") ? 1 : wins.equals("c") ? 2 : 0);
            x.chance(2, 0, 0);
            part("15: never, " + wins, x.share(0, 1, 2, 2, 0), x.share(0, 1, 2, 2, 1), 1, 1);
            Due.due("17: never, " + wins, x.likely(0, 1, 2), 2);
        }
    }

    /** Two names, 1 on the lowest rung and stronger, 0 asks nobody; on day 999. */
    private static LadderClub lastDay(String... texts) {
        LadderClub x = Clubs.names(2);
        for (String text : texts) {
            Clubs.club(x, text);
        }
        x.chance(1, 0, 60);
        x.asker(0, 6, 0);
        for (int i = 0; i < 10; i++) {
            x.pass(99);
        }
        x.pass(9);
        return x;
    }

    private static void beyond999() {
        // 999 is the highest one's day; on 1000, 1002, 1004 (6, 1, 3 of seven) 1 asks.
        int[] first = {2, 4, 6};
        String[] texts = {"up 1;shy !d=6", "up 1;shy !d=1", "up 1;shy !d=3"};
        for (int c = 0; c < 3; c++) {
            LadderClub x = lastDay(texts[c]);
            for (int n = 0; n <= 6; n++) {
                boolean asked = n >= first[c];
                String what = texts[c] + ", " + n + " days from 999 on";
                part("15: " + what, x.share(0, n, 1, 0, 0), x.share(0, n, 1, 0, 1), asked ? 3 : 0, asked ? 5 : 1);
                part("16: " + what, x.truly(0, n, 0), x.truly(0, n, 1), asked ? 3 : 0, asked ? 5 : 1);
                part("18: " + what, x.mean(0, n, 1, 0), x.mean(0, n, 1, 1), asked ? 2 : 1, asked ? 5 : 1);
                part("23: " + what, x.refuse(0, n, 0, 0), x.refuse(0, n, 0, 1), asked ? 3 : 0, asked ? 5 : 1);
                Due.due("17: " + what, x.likely(0, n, 0), asked ? 1 : 0);
            }
            Due.due("14: it is 999 still", x.count(2), 999);
        }
    }

    private static void beyond999Asking() {
        LadderClub x = lastDay("up 1;shy !d=2", "up 1;shy !d=3", "up 1;shy !d=1");
        Due.due("25: 1002 comes first", x.best(4), 2);
        LadderClub y = lastDay("up 1;shy !d=2", "up 1;shy !d=3");
        for (int n = 0; n <= 6; n++) {
            Due.due("25: " + n + " days from 999 on", y.best(n), n == 6 ? 1 : 0);
        }
        LadderClub z = lastDay("up 1;shy !d=3");
        z.asker(0, 0, 0);
        for (int n = 0; n <= 6; n++) { // from below 60 of 100 by 1004, from above 60 are left: the highest rung is as good
            Due.due("24: " + n + " days from 999 on", z.begin(0, n, 0), n == 6 ? 0 : 1);
        }
        LadderClub w = Clubs.names(3, "up 2");
        Clubs.club(w, "up 2;shy d=6&r=1");
        w.chance(2, 0, 60);
        w.chance(2, 1, 100);
        w.asker(1, 6, 0);
        w.asker(0, 6, 0);
        for (int i = 0; i < 10; i++) {
            w.pass(99);
        }
        w.pass(9);
        Due.due("20: on 999, 0.8 by 0, 1 by 1", w.ought(0, 1, 2), 0);
        Due.due("20: 1 first, then 0 on 1000", w.ought(0, 2, 2), 1);
        Due.due("20: on 1000 it may not", w.ought(1, 2, 2), 0);
        Due.due("20: but on 1002, from the lowest rung alone", w.ought(1, 4, 2), 0);
    }

    /** TODAY is the first of the days, and the last is n - 1 days later. */
    private static void onlyWithin() {
        LadderClub x = Clubs.names(1, "up 1;shy !d=0");
        x.name();
        Clubs.club(x, "up 1;shy !d=2");
        Clubs.club(x, "up 1;shy !d=4");
        x.chance(1, 0, 60);
        x.asker(0, 6, 0);
        int[] first = {1, 3, 5};
        for (int c = 0; c < 3; c++) {
            for (int n = 0; n <= 6; n++) {
                boolean asked = n >= first[c];
                part("15: club " + c + ", " + n, x.share(c, n, 1, 0, 0), x.share(c, n, 1, 0, 1), asked ? 3 : 0, asked ? 5 : 1);
            }
        }
        x.pass(1);
        Due.due("15: day 0 is over", x.share(0, 6, 1, 0, 0), 0);
        Due.due("15: day 2 is tomorrow", x.share(1, 2, 1, 0, 0), 3);
        Due.due("15: but not today", x.share(1, 1, 1, 0, 0), 0);
    }

    /** On rung (DAY modulo how many), from the lowest up. */
    private static void whoseTurn() {
        for (int names = 1; names <= 6; names++) {
            LadderClub x = Clubs.names(names, "up 5");
            for (int a = 0; a < names; a++) {
                x.asker(a, 1, 0);
                for (int b = 0; b < a; b++) {
                    x.chance(a, b, 100);
                }
            }
            for (int day = 0; day < 13; day++) {
                int turn = names - 1 - day % names;
                for (int name = 0; name < names; name++) {
                    int due = name == turn && turn > 0 ? name - 1 : name == turn - 1 ? turn : name;
                    Due.due("18: day " + day + " of " + names, x.mean(0, 1, name, 0), due);
                    int whom = name != turn ? LadderClub.STATE : turn == 0 ? -5 : 0;
                    Due.due("20: the turn on day " + day + " of " + names, x.ought(0, 1, name), whom);
                }
                x.pass(1);
            }
        }
    }

    private static void oneName() {
        LadderClub x = Clubs.names(1, "up 5;wins c");
        for (int n = 0; n <= 6; n++) {
            part("15: one name", x.share(0, n, 0, 0, 0), x.share(0, n, 0, 0, 1), 1, 1);
            part("16: one name", x.truly(0, n, 0), x.truly(0, n, 1), 1, 1);
            part("18: one name", x.mean(0, n, 0, 0), x.mean(0, n, 0, 1), 0, 1);
            part("23: one name", x.refuse(0, n, 0, 0), x.refuse(0, n, 0, 1), 0, 1);
            Due.due("17: one name", x.likely(0, n, 0), 0);
            Due.due("24: one name", x.begin(0, n, 0), 0);
            Due.due("25: one name", x.best(n), 0);
        }
        Due.due("20: one name", x.ought(0, 6, 0), -5);
        Due.due("19: one name", x.stuck(0, 0) + x.stuck(0, 1), 0);
        LadderClub none = Clubs.names(0, "up 5");
        Due.due("16: no names", none.truly(0, 6, 1), NO);
        Due.due("25: no names", none.best(6), -5);
        Due.due("19: no names", none.stuck(0, 0) + none.stuck(0, 1), 0);
    }

    private static void likeliest() {
        LadderClub x = Clubs.names(2, "up 1");
        for (int chance : new int[] {0, 49, 50, 51, 100}) {
            x.chance(1, 0, chance);
            Due.due("17: 1 wins by " + chance, x.likely(0, 1, 0), chance > 50 ? 1 : 0);
            x.hang(1, 0);
            Due.due("17: 0 wins by what is left of " + chance, x.likely(0, 1, 0), chance > 50 ? 1 : 0);
            Due.due("17: the lower rung", x.likely(0, 1, 1), chance > 50 ? 0 : 1);
            x.hang(0, 0);
        }
        LadderClub y = Clubs.names(3, "up 2;wins c");
        y.hang(2, 0); // 2 0 1: 1 asks 2 and would come to 1 0 2
        y.asker(1, 2, 0);
        y.chance(1, 2, 40);
        Due.due("17: the first as a row, but less likely", y.likely(0, 1, 0), 2);
        y.chance(1, 2, 50);
        Due.due("17: the first as a row, as likely", y.likely(0, 1, 0), 1);
        y.hang(1, 0); // 1 2 0: 0 asks 2 by 50: 1 0 2
        y.asker(0, 1, 0);
        Due.due("17: the first by its second name", y.likely(0, 1, 1), 0);
        Due.due("17: and its third", y.likely(0, 1, 2), 2);
    }

    /** One board by several ways is one board: 1 asks on days 0, 2 and 4, until it has won. */
    private static void waysTogether() {
        LadderClub x = Clubs.names(2, "up 1;shy !d=0");
        Clubs.club(x, "up 1;shy a=1&d=0|a=0&d=2");
        Clubs.club(x, "up 1");
        x.chance(1, 0, 35);
        x.asker(0, 6, 0);
        Due.due("17: 35 of 100 on one day", x.likely(0, 6, 0), 0);
        Due.due("17: 35 and 65 of 35 on two", x.likely(2, 3, 0), 1);
        x.chance(1, 0, 60);
        part("16: on two days", x.truly(2, 4, 0), x.truly(2, 4, 1), 21, 25);
        part("16: on three", x.truly(2, 6, 0), x.truly(2, 6, 1), 117, 125);
        Due.due("25: three days are better than one", x.best(6), 2);
        Due.due("25: as good on one day", x.best(2), 0);
        x.asker(0, 0, 0);
        Due.due("24: from below today, lost by 0, won back", x.begin(1, 3, 0), 1);
        part("16: day 2 alone", x.truly(1, 3, 0), x.truly(1, 3, 1), 3, 5);
        x.hang(1, 0);
        part("16: 60 that 0 loses, and 60 of 40", x.truly(1, 3, 0), x.truly(1, 3, 1), 21, 25);
    }

    private static void stuckAndHanging() {
        LadderClub x = Clubs.names(6, "up 0");
        Due.due("19: like ones", x.stuck(0, 0) + x.stuck(0, 1), 0);
        x.chance(5, 0, 50);
        Due.due("19: 50 is not stronger", x.stuck(0, 0) + x.stuck(0, 1), 0);
        x.chance(5, 0, 49);
        Due.due("19: nor 49; and the stronger stands higher", x.stuck(0, 0) + x.stuck(0, 1), 0);
        x.chance(5, 0, 51);
        Due.due("19: 51 is: the lowest is stuck", x.stuck(0, 0), 32);
        Due.due("19: the highest hangs", x.stuck(0, 1), 1);
        for (int a = 0; a < 6; a++) {
            for (int b = 0; b < a; b++) {
                x.chance(a, b, 100);
            }
        }
        Due.due("19: all but the highest", x.stuck(0, 0), 62);
        Due.due("19: all but the lowest", x.stuck(0, 1), 31);
        Clubs.club(x, "up 5");
        Due.due("19: each asks one of many, 1 the only one", x.stuck(1, 0), 0b111100);
        Due.due("19: each is asked by the next one", x.stuck(1, 1), 0);
        x.asker(1, 6, 0);
        Due.due("19: 1 asks nobody", x.stuck(1, 0), 0b111110);
        Due.due("19: nobody asks 0", x.stuck(1, 1), 1);
        x.asker(5, 2, 0);
        Due.due("19: 5 asks 0, who hangs no more; but 4 then", x.stuck(1, 1), 0b010000);
    }

    private static void stuckOnTheseDays() {
        LadderClub x = Clubs.names(2);
        x.chance(1, 0, 51);
        x.image();
        for (int day = 0; day <= 7; day++) {
            x.undo();
            Clubs.club(x, "up 1;shy !d=" + day);
            for (int today = 0; today < 9; today += 4) {
                Due.due("19: on day " + day + " alone, stuck", x.stuck(0, 0), day < 7 ? 0 : 2);
                Due.due("19: on day " + day + " alone, hanging", x.stuck(0, 1), day < 7 ? 0 : 1);
                x.pass(4);
            }
        }
        x.undo();
        Clubs.club(x, "up 1;shy d=0|d>0");
        Due.due("19: on no day, ahead of day 0 neither", x.stuck(0, 0) * 10 + x.stuck(0, 1), 21);
        LadderClub y = Clubs.names(3, "up 2;shy b=0&!d=6;shy b=1&d=6");
        y.chance(2, 0, 60);
        y.chance(2, 1, 60);
        Due.due("19: it asks one on days 0 .. 5, the other on day 6", y.stuck(0, 0) + y.stuck(0, 1), 0);
        LadderClub z = Clubs.names(3, "up 2");
        z.chance(2, 0, 60);
        z.asker(2, 1, 0);
        Due.due("19: another one asks it", z.stuck(0, 0) * 10 + z.stuck(0, 1), 40);
        z.hang(2, 1); // 0 2 1
        Due.due("19: by the board as it is", z.stuck(0, 0) + z.stuck(0, 1), 0);
    }

    private static void ought() {
        LadderClub x = Clubs.names(6, "up 5");
        for (int b = 0; b < 5; b++) {
            x.chance(5, b, 0);
        }
        for (int n = 1; n <= 6; n++) {
            Due.due("20: of like ones nobody, " + n, x.ought(0, n, 5), -5);
        }
        x.chance(5, 4, 1);
        for (int n = 1; n <= 4; n++) {
            Due.due("20: one of a hundred is better, " + n, x.ought(0, n, 5), 4);
        }
        x.chance(5, 3, 50);
        x.chance(5, 1, 25);
        x.chance(5, 0, 20);
        x.chance(5, 4, 100);
        Due.due("20: all one rung on average: the least name", x.ought(0, 1, 5), 0);
        x.chance(5, 0, 19);
        Due.due("20: 95 less than a rung; then the next one", x.ought(0, 1, 5), 1);
        x.hang(3, 1); // 0 3 1 2 4 5
        Due.due("20: 3 stands four rungs higher now", x.ought(0, 1, 5), 3);
        Clubs.club(x, "up 5;shy b=3&c=50");
        Due.due("20: but it may not ask 3", x.ought(1, 1, 5), 4);
        Clubs.club(x, "up 5;wins o");
        Due.due("20: one rung at most", x.ought(2, 1, 5), 4);
    }

    /** Today by free choice, later by their kinds, itself too. */
    private static void oughtByDays() {
        LadderClub x = Clubs.names(2, "up 1;wins c");
        x.chance(1, 0, 60);
        Due.due("20: today", x.ought(0, 1, 1), 0);
        Due.due("20: and two", x.ought(0, 2, 1), 0);
        x.asker(1, 6, 0);
        x.asker(0, 6, 0);
        for (int n = 1; n <= 6; n++) {
            Due.due("20: it asks today alone, " + n, x.ought(0, n, 1), 0);
        }
        x.chance(1, 0, 0);
        x.asker(1, 0, 0);
        Due.due("20: of like ones nobody", x.ought(0, 6, 1), -5);
        // 2 may ask on day 0 from rung 2 (60), and on day 4 from rung 1 (100); on no other day.
        LadderClub y = Clubs.names(3, "up 1;shy r=1&!d=4;shy r=2&d=3");
        y.chance(2, 1, 60);
        y.chance(2, 0, 100);
        y.asker(1, 6, 0);
        y.asker(0, 6, 0);
        part("18: by its kind", y.mean(0, 5, 2, 0), y.mean(0, 5, 2, 1), 4, 5);
        Due.due("20: five days", y.ought(0, 5, 2), 1);
    }

    private static void rows() {
        LadderClub x = new LadderClub();
        Due.due("21: empty as it is", x.row(-2), 0);
        for (int i = 1; i <= 6; i++) {
            Due.due("21: -1 " + i + " times", x.row(-1), i);
            Due.due("37: how many", x.count(4), i);
        }
        Due.due("21: FULL", x.row(5), LadderClub.FULL);
        Due.due("21: empty then", x.row(-2), 0);
        for (int i = 1; i <= 6; i++) {
            Due.due("21: 5 without names", x.row(5), i);
        }
        Due.due("21: FULL", x.row(-1), LadderClub.FULL);
        Due.due("21: -3", x.row(-3), LadderClub.BAD);
        Due.due("21: 6", x.row(6), LadderClub.BAD);
        Due.due("37: six", x.count(4), 6);
    }

    private static void judged() {
        LadderClub none = Clubs.names(0, "up 1");
        Due.due("22: no names, an empty row", none.judged(0, 999), -5);
        LadderClub x = Clubs.names(6, "up 1");
        for (int i = -1; i < 5; i++) {
            Due.due("22: not as long yet", x.judged(0, 0), LadderClub.STATE);
            x.row(i);
        }
        Due.due("22: each asks the next one, the highest nobody", x.judged(0, 0), -5);
        Due.due("22: on day 999", x.judged(0, 999), -5);
        for (int name = 5; name >= 0; name--) {
            x.asker(name, name == 0 ? 0 : 6, 0);
            Due.due("22: the first that asks otherwise", x.judged(0, 0), name == 0 ? 1 : name);
        }
        x.row(-2);
        for (int i = 0; i < 6; i++) {
            x.row(i == 5 ? 4 : -1);
        }
        Due.due("22: the last one asks nobody, told 4", x.judged(0, 0), 5);
        x.asker(5, 0, 0);
        Due.due("22: now it asks 4", x.judged(0, 0), -5);
        x.hang(5, 0); // 0 would ask 5, but all others ask nobody
        Due.due("22: 0 asks 5", x.judged(0, 0), 0);
        x.asker(0, 6, 0);
        Due.due("22: 5 asks nobody from the highest rung", x.judged(0, 0), 5);
        LadderClub y = Clubs.names(2, "up 1;shy d=6");
        y.row(-1);
        y.row(0);
        for (int day = 0; day < 14; day++) {
            Due.due("22: on day " + day, y.judged(0, day), day % 7 == 6 ? 1 : -5);
        }
        y.pass(6);
        Due.due("22: whatever today is", y.judged(0, 0), -5);
        Due.due("22: as if it were their turn", y.judged(0, 1), -5);
    }

    private static void refusing() {
        LadderClub x = Clubs.names(3, "up 2");
        x.asker(2, 1, 0); // asks 1; if it may not, 0
        x.chance(2, 1, 100);
        x.chance(2, 0, 100);
        part("23: 2 less 1", x.refuse(0, 1, 1, 0), x.refuse(0, 1, 1, 1), 0, 1);
        Clubs.club(x, "up 2;wins c");
        part("23: 2 by its own, 1 else", x.refuse(1, 1, 1, 0), x.refuse(1, 1, 1, 1), 1, 1);
        part("23: 0 is not asked anyway", x.refuse(1, 1, 0, 0), x.refuse(1, 1, 0, 1), 0, 1);
        part("23: 2 itself asks on", x.refuse(1, 1, 2, 0), x.refuse(1, 1, 2, 1), 0, 1);
        x.chance(2, 1, 0);
        part("23: 1 less 2", x.refuse(0, 1, 1, 0), x.refuse(0, 1, 1, 1), -1, 1);
        x.chance(2, 0, 5);
        part("23: below 0 in lowest terms", x.refuse(0, 1, 1, 0), x.refuse(0, 1, 1, 1), -1, 20);
        x.asker(2, 5, 1);
        part("23: TOLD 1, then nobody", x.refuse(0, 1, 1, 0), x.refuse(0, 1, 1, 1), 0, 1);
    }

    private static void beginning() {
        LadderClub x = Clubs.names(6, "up 0");
        for (int name = 0; name < 6; name++) {
            for (int n = 0; n <= 6; n++) {
                Due.due("24: where it is true", x.begin(0, n, name), name);
            }
            x.hang(name, 5 - name);
            Due.due("24: wherever it is now", x.begin(0, 0, name), name);
            x.hang(name, name);
        }
        x.hang(0, 5);
        Due.due("24: never true by 1: the highest", x.begin(0, 6, 1), 0);
        Due.due("24: the board stays", Clubs.board(x, 0), 1123450);
        LadderClub y = Clubs.names(2, "up 1");
        y.chance(1, 0, 51);
        Due.due("24: now, above", y.begin(0, 0, 1), 0);
        Due.due("24: now, below", y.begin(0, 0, 0), 1);
        Due.due("24: 51 of 100 from both: the highest", y.begin(0, 1, 1) + y.begin(0, 1, 0), 0);
        y.asker(1, 6, 0);
        Due.due("24: 0 asks from below, but else it is not true", y.begin(0, 1, 0), 1);
    }

    private static void best() {
        LadderClub x = Clubs.names(2);
        Due.due("25: no clubs", x.best(6), -5);
        x.chance(1, 0, 60);
        for (int i = 0; i < 4; i++) {
            Clubs.club(x, "up 1;shy c>" + (50 + i));
            Due.due("25: of like ones the least", x.best(6), 0);
        }
        Clubs.club(x, "up 1");
        Due.due("25: the fifth", x.best(1), 4);
        Due.due("25: in no days all alike", x.best(0), 0);
        x.pass(1);
        Due.due("25: not today", x.best(1), 0);
        Due.due("25: tomorrow", x.best(2), 4);
        x.hang(1, 0);
        Due.due("25: true, if nobody is asked", x.best(2), 0);
    }
}
