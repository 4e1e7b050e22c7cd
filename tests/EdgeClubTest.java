/** Promises 8 to 14 where their bounds are: the tape, each place of a club's text, whom one may ask, matches. */
public final class EdgeClubTest {
    private static final String LETTERS = "aburcd";
    private static final String FACTOR = LETTERS + "!(", DIGITS = "0123456789";

    public static void main(String[] args) {
        theTape();
        eachSignOfAClause();
        eachSignOfAnE();
        eachSignByWhatIsOpen();
        clauses();
        endsTooEarly();
        allTheTape();
        whatStoodThere();
        fiveClubs();
        tests();
        shyAndBold();
        higher();
        safeAndTold();
        ofThoseItMay();
        kinds();
        askingOnTheLastDay();
        matches();
        passing();
        Due.end();
    }

    private static void theTape() {
        LadderClub x = new LadderClub();
        for (int n = 1; n <= 8; n++) {
            Due.due("8: behind what there is, " + n, x.feed(-1, n), n * (n + 1) / 2);
        }
        x.club();
        for (int i = 1; i <= 15; i++) {
            Due.due("8: eight more", x.feed(Long.MIN_VALUE, 8), 8 * i);
        }
        Due.due("8: a 121st", x.feed(0, 1), LadderClub.FULL);
        Due.due("8: not a part of it", x.feed(0, 8), LadderClub.FULL);
        Due.due("8: 120", x.count(5), 120);
        x.club();
        Due.due("8: from the beginning again", x.feed(0x77, 1), 1);
        Due.due("8: the highest of the lowest first, not what is above them", x.feed(0x757020696E732063L, 5), 6);
        Due.due("8: wins c", x.club(), 0);
        for (int i = 0; i < 7; i++) {
            x.feed(0x7570203120202020L >> 32, 4);
            x.feed(';', 1);
        }
        Due.due("8: the sign of w is a byte as others", x.feed(0xFF75702034L, 4), 39);
        Due.due("8: up 1 seven times, up 4", x.club(), 1);
    }

    /** Of all 256 bytes behind a right beginning just these go on; with any other that is the fault. */
    private static void goesOn(String begun, String with) {
        for (int sign = 0; sign < 256; sign++) {
            boolean on = with.indexOf(sign) >= 0;
            LadderClub x = new LadderClub();
            Clubs.feed(x, begun + (char) sign);
            int got = x.club();
            String what = "9: " + begun + " and byte " + sign;
            Due.due(what, on ? got == 0 || got == -11 - begun.length() : got == -10 - begun.length());
            Due.due(what + ", the tape is empty", x.count(5), 0);
        }
    }

    private static void eachSignOfAClause() {
        goesOn("", "uwsb");
        goesOn("u", "p");
        goesOn("up", " ");
        goesOn("up ", DIGITS);
        goesOn("up 0", ";");
        goesOn("up 1", DIGITS + ";");
        goesOn("up 9", DIGITS + ";");
        goesOn("up 10", ";");
        goesOn("up 99", ";");
        goesOn("w", "i");
        goesOn("wi", "n");
        goesOn("win", "s");
        goesOn("wins", " ");
        goesOn("wins ", "tco");
        goesOn("wins o", ";");
        goesOn("s", "h");
        goesOn("sh", "y");
        goesOn("shy", " ");
        goesOn("shy ", FACTOR);
        goesOn("b", "o");
        goesOn("bo", "l");
        goesOn("bol", "d");
        goesOn("bold", " ");
        goesOn("bold ", FACTOR);
        goesOn("up 1;", "uwsb");
        goesOn("shy a=1;", "uwsb");
    }

    private static void eachSignOfAnE() {
        for (int i = 0; i < LETTERS.length(); i++) {
            goesOn("shy " + LETTERS.charAt(i), "<=>");
        }
        for (String sign : new String[] {"<", "=", ">"}) {
            goesOn("bold c" + sign, DIGITS);
        }
        goesOn("shy a<0", "&|;");
        goesOn("shy a<5", DIGITS + "&|;");
        goesOn("shy a<55", "&|;");
        goesOn("shy a<55&", FACTOR);
        goesOn("shy a<55|", FACTOR);
        goesOn("shy a<55&b=0", "&|;");
        goesOn("shy !", FACTOR);
        goesOn("shy !a<0", "&|;");
        goesOn("shy (", FACTOR);
        goesOn("shy (a<0", "&|)");
        goesOn("shy (a<5", DIGITS + "&|)");
        goesOn("shy (a<55", "&|)");
        goesOn("shy (a<55&", FACTOR);
        goesOn("shy (a<55|", FACTOR);
        goesOn("shy (a<55)", "&|;");
        goesOn("shy ((a<55)", "&|)");
        goesOn("shy !(a<55)", "&|;");
        goesOn("shy !(!a<55", "&|)");
    }

    private static void eachSignByWhatIsOpen() {
        for (String four : new String[] {"!!!!", "((((", "!(!(", "(!!("}) {
            goesOn("bold " + four, FACTOR);
            goesOn("bold " + four + "!", LETTERS);
            goesOn("bold " + four + "(", LETTERS);
        }
        goesOn("bold ((((!a=0", "&|)"); // the ! is open no more
        goesOn("bold ((((!a=0&", FACTOR);
        goesOn("bold ((((!a=0|!", LETTERS);
        goesOn("bold (((((a=0", "&|)"); // five ( still are
        goesOn("bold (((((a=0&", LETTERS);
        goesOn("bold (((((a=0)", "&|)"); // four
        goesOn("bold (((((a=0)&", FACTOR);
        goesOn("bold (((((a=0)&(", LETTERS);
        goesOn("bold !!!!!a=0&", FACTOR);
        goesOn("bold !!!!!a=0|!!!!", FACTOR);
        goesOn("bold !!!!!a=0|!!!!!", LETTERS);
        goesOn("bold !!!!(a=0", "&|)"); // a ! till its F ends: all five
        goesOn("bold !!!!(a=0&", LETTERS);
        goesOn("bold !!!!(a=0)", "&|;");
        goesOn("bold !!!!(a=0)&!!!!", FACTOR);
        goesOn("bold !(!(!a=0)", "&|)");
        goesOn("bold !(!(!a=0)&", "!(" + LETTERS); // two are open
        goesOn("bold !(!(!a=0)&!!", "!(" + LETTERS);
        goesOn("bold !(!(!a=0)&!!!", LETTERS);
        goesOn("bold (((((a=0)))))", "&|;");
        goesOn("bold (((((a=0)))))|(((((", LETTERS);
        goesOn("bold (((((a=0)))));", "uwsb");
        goesOn("bold (((((a=0)))));shy ((((", FACTOR);
    }

    private static void reads(String text) {
        Due.due("9: " + text, Clubs.club(new LadderClub(), text), 0);
    }

    private static void faulty(String text, int fault) {
        Due.due("9: " + text, Clubs.club(new LadderClub(), text), -10 - fault);
    }

    private static void clauses() {
        String[] each = {"up 0", "wins t", "shy a=1", "bold !(b<2|c>9)"};
        for (String clause : each) {
            reads(clause);
            String seven = (clause + ";").repeat(7);
            if (seven.length() + clause.length() < 120) {
                reads(seven + clause);
                goesOn(seven, "uwsb");
                faulty(seven + clause + ";", seven.length() + clause.length());
                faulty(seven + clause + ";" + clause, seven.length() + clause.length());
            }
        }
        faulty("", 0);
        faulty(";up 1", 0);
        goesOn("up 1;".repeat(7) + "up 1", DIGITS);
        goesOn("up 1;".repeat(7) + "up 10", "");
        goesOn("up 1;".repeat(6) + "up 10", ";");
        goesOn("up 1;".repeat(7) + "shy a=10", "&|");
    }

    /** Whatever begins a club and is none yet has its fault at its size. */
    private static void endsTooEarly() {
        String text = "up 10;wins c;bold !(b<25|!c>9)&(d=6);shy a=1";
        String ends = "up 1 up 10 wins c bold !(b<25|!c>9) bold !(b<25|!c>9)&(d=6) shy a=1 ";
        for (int size = 0; size <= text.length(); size++) {
            String begun = text.substring(0, size);
            String last = begun.substring(begun.lastIndexOf(';') + 1);
            int want = !last.isEmpty() && ends.contains(last + " ") && !"up wins shy bold".contains(last) ? 0 : -10 - size;
            Due.due("9: " + begun, Clubs.club(new LadderClub(), begun), want);
        }
    }

    private static void allTheTape() {
        String all = "shy a<10" + "|a<1".repeat(28);
        Due.due("9: all 120 bytes", all.length(), 120);
        reads(all);
        faulty(all.substring(0, 119), 119);
        faulty(all.substring(0, 118), 118);
        faulty(all.substring(0, 117), 117);
        reads(all.substring(0, 116));
        faulty(all.substring(0, 116) + "&a<!", 119);
        faulty("bold " + "a<9&".repeat(28) + "!a<", 120);
        faulty("bold " + "a<9&".repeat(28) + "!a=", 120);
        reads("bold " + "a<9&".repeat(28) + "a<1");
        faulty("shy " + "a<9&".repeat(28) + "u>2;", 120);
        faulty("shy " + "a<9&".repeat(28) + "u>2)", 119);
        LadderClub x = new LadderClub();
        for (int i = 0; i < 15; i++) {
            x.feed(0, 8);
        }
        Due.due("9: 120 bytes of 0", x.club(), -10);
        Due.due("9: the tape is empty then", x.count(5), 0);
        Due.due("9: and takes all again", x.feed(0, 8), 8);
    }

    /** An emptied tape is empty: what stood behind the size does not come back, neither as a digit nor as a sign. */
    private static void whatStoodThere() {
        LadderClub x = Clubs.names(6);
        String longer = "up 12;wins c;shy a<12&!(b=3);bold !b>4";
        for (int size = 0; size < longer.length(); size++) {
            x.image();
            Due.due("9: a longer text", Clubs.club(x, longer), 0);
            String begun = longer.substring(0, size);
            int due = Clubs.club(new LadderClub(), begun);
            Due.due("9: behind a longer one: " + begun, Clubs.club(x, begun), due == 0 ? 1 : due);
            x.undo();
        }
        Clubs.club(x, longer);
        Clubs.club(x, "up 1");
        Due.due("10: up 1, not 12", x.may(1, 5, 0), 16);
        Due.due("9: a longer fault", Clubs.club(x, "wins c;up 1!"), -10 - 11);
        Due.due("9: the end of it is not there", Clubs.club(x, "wins "), -10 - 5);
        Due.due("9: nor the whole", x.club(), -10);
    }

    private static void fiveClubs() {
        LadderClub x = Clubs.names(6);
        for (int i = 0; i < 5; i++) {
            Due.due("9: a fault has no number", Clubs.club(x, "up " + (i + 1) + "!"), -14);
            Due.due("9: nor is it counted", x.count(1), i);
            Due.due("9: club " + i, Clubs.club(x, "up " + (i + 1)), i);
        }
        Due.due("9: a sixth", Clubs.club(x, "up 1"), LadderClub.FULL);
        Due.due("9: the tape stays", x.count(5), 4);
        Due.due("9: even a wrong one", Clubs.club(x, "!"), LadderClub.FULL);
        Due.due("9: it goes on", x.count(5), 5);
        for (int i = 0; i < 5; i++) {
            Due.due("10: each by its own text", Integer.bitCount(x.may(i, 5, 0)), i + 1);
        }
    }

    /** Whether a test holds of a on a rung, that would ask b, so many rungs higher, with a chance, on a day. */
    private static void tested(char letter, int a, int b, int rung, int up, int chance, int day, int is) {
        LadderClub x = Clubs.names(6);
        x.hang(a, rung);
        x.hang(b, rung - up);
        x.hang(a, rung);
        x.chance(a, b, chance);
        x.image();
        for (int number : new int[] {0, 1, 2, 3, 4, 5, 6, 7, 9, 10, 49, 50, 51, 90, 98, 99}) {
            x.undo();
            for (String sign : new String[] {"<", "=", ">"}) {
                int club = Clubs.club(x, "up 5;shy " + letter + sign + number);
                boolean due = sign.equals("<") ? is < number : sign.equals("=") ? is == number : is > number;
                Due.due("10: " + is + " of " + letter + sign + number, (x.may(club, a, day) >> b & 1) == 0 == due);
            }
        }
    }

    private static void tests() {
        for (int i = 0; i < 6; i++) {
            tested('a', i, (i + 1) % 6, 5, 3, 50, 0, i);
            tested('b', (i + 1) % 6, i, 4, 2, 50, 0, i);
        }
        for (int rung = 1; rung < 6; rung++) {
            tested('r', 0, 3, rung, 1, 50, 0, rung);
            tested('u', 2, 4, 5, rung, 50, 0, rung);
        }
        for (int chance : new int[] {0, 1, 2, 9, 10, 49, 50, 51, 98, 99, 100}) {
            tested('c', 1, 4, 3, 2, chance, 0, chance);
        }
        for (int day : new int[] {0, 1, 6, 7, 8, 13, 14, 698, 699, 700, 993, 994, 998, 999}) {
            tested('d', 3, 2, 4, 1, 50, day, day % 7);
        }
    }

    /** Either E of no shy holds, or E of some bold does. */
    private static void shyAndBold() {
        for (int holds = 0; holds < 16; holds++) {
            String[] e = new String[4];
            for (int i = 0; i < 4; i++) {
                e[i] = (holds >> i & 1) == 1 ? "a=1" : "a=0";
            }
            boolean due = (holds & 3) == 0 || holds >> 2 != 0;
            LadderClub x = Clubs.names(2, "up 1;shy " + e[0] + ";shy " + e[1] + ";bold " + e[2] + ";bold " + e[3]);
            Clubs.club(x, "bold " + e[3] + ";shy " + e[1] + ";bold " + e[2] + ";shy " + e[0] + ";up 1");
            Due.due("10: shy and bold " + holds, x.may(0, 1, 0), due ? 1 : 0);
            Due.due("10: bold and shy " + holds, x.may(1, 1, 0), due ? 1 : 0);
            LadderClub y = Clubs.names(2, "up 1;shy " + e[0]);
            Clubs.club(y, "up 1;bold " + e[0]);
            Due.due("10: one shy " + holds, y.may(0, 1, 0), 1 - (holds & 1));
            Due.due("10: one bold forbids nothing " + holds, y.may(1, 1, 0), 1);
        }
        LadderClub z = Clubs.names(3, "up 1;bold a=2");
        Due.due("10: nor does it let one ask farther", z.may(0, 2, 0), 2);
        Due.due("10: nor lower", z.may(0, 0, 0), 0);
    }

    private static void higher() {
        int[] ups = {0, 1, 4, 5, 6, 9, 10, 99};
        for (int up : ups) {
            LadderClub x = Clubs.names(6, "up " + up);
            for (int a = 0; a < 6; a++) {
                int bits = 0;
                for (int b = 0; b < a; b++) {
                    bits |= a - b <= up ? 1 << b : 0;
                }
                Due.due("10: up " + up + " from rung " + a, x.may(0, a, 0), bits);
            }
        }
        LadderClub y = Clubs.names(6, "shy a=9");
        Clubs.club(y, "up 9;up 0");
        Clubs.club(y, "up 0;wins o;up 5;wins c");
        Due.due("10: without up", y.may(0, 5, 0), 0);
        Due.due("10: the last up is 0", y.may(1, 5, 0), 0);
        Due.due("10: the last up is 5", y.may(2, 5, 0), 31);
        y.match(2, 5, 0, true);
        Due.due("13: the last wins is c", Clubs.board(y, 0), 1512340);
        Clubs.club(y, "wins c;wins o;wins t;up 5");
        y.match(3, 0, 5, true);
        Due.due("13: the last wins is t", Clubs.board(y, 0), 1051234);
    }

    private static void safeAndTold() {
        LadderClub x = Clubs.names(6, "up 4"); // 5 may ask 1 to 4
        for (int v : new int[] {0, 1, 50, 99, 100}) {
            x.asker(5, 3, v);
            for (int b = 1; b < 5; b++) {
                x.chance(5, b, 0);
            }
            Due.due("12: SAFE, 0 of " + v, x.asks(0, 5, 0), v == 0 ? 1 : -5);
            x.chance(5, 3, v);
            Due.due("12: SAFE, just " + v, x.asks(0, 5, 0), v == 0 ? 1 : 3);
            x.chance(5, 3, Math.max(0, v - 1));
            x.chance(5, 0, 100);
            Due.due("12: SAFE, one less than " + v, x.asks(0, 5, 0), v == 0 ? 1 : -5);
            x.chance(5, 4, 100);
            Due.due("12: SAFE, 100 for " + v, x.asks(0, 5, 0), v == 0 ? 1 : 4);
        }
        int[] whom = {-5, 1, 2, 3, 4, -5, -5, -5};
        for (int v = 0; v < whom.length; v++) {
            x.asker(5, 5, v);
            Due.due("12: TOLD " + v, x.asks(0, 5, 0), whom[v]);
        }
        x.asker(5, 5, 100);
        Due.due("12: TOLD 100", x.asks(0, 5, 0), -5);
        for (int kind = 0; kind < 7; kind++) {
            x.asker(0, kind, 0);
            Due.due("12: nobody to ask, kind " + kind, x.asks(0, 0, 0), -5);
        }
    }

    /** Whom 5, on the lowest rung, asks of any of the five others, all its chances being 50. */
    private static void ofThoseItMay() {
        for (int may = 0; may < 32; may++) {
            StringBuilder text = new StringBuilder("up 5;shy a<5");
            for (int b = 0; b < 5; b++) {
                text.append((may >> b & 1) == 1 ? "" : "|b=" + b);
            }
            LadderClub x = Clubs.names(6, text.toString());
            Clubs.club(x, text + ";wins c");
            Clubs.club(x, text + ";wins o");
            int highest = may == 0 ? -5 : Integer.numberOfTrailingZeros(may);
            int lowest = may == 0 ? -5 : 31 - Integer.numberOfLeadingZeros(may);
            int[] whom = {lowest, lowest, highest, highest, highest, -5, -5};
            for (int club = 0; club < 3; club++) {
                Due.due("10: of " + may, x.may(club, 5, 0), may);
                for (int kind = 0; kind < 7; kind++) {
                    x.asker(5, kind, 50);
                    Due.due("12: of " + may + " by club " + club + ", kind " + kind, x.asks(club, 5, 0), whom[kind]);
                }
                for (int v = 0; v < 7; v++) {
                    x.asker(5, 5, v);
                    Due.due("12: of " + may + ", told " + v, x.asks(club, 5, 0), (may >> v & 1) == 1 ? v : -5);
                }
            }
        }
    }

    private static void kinds() {
        LadderClub x = Clubs.names(6);
        int was = 0;
        for (int kind : new int[] {6, 0, 1, 2, 3, 4, 5, 6, 6, 0}) {
            Due.due("11: which kind it had, ahead of " + kind, x.asker(5, kind, kind % 2 * 100), was);
            Due.due("11: v, 0 or 100", x.as(5, 0), kind % 2 * 100);
            Due.due("11: the others have their own", x.as(4, 0), 0);
            was = kind;
        }
        x.asker(5, 0, 1);
        x.asker(5, 0, 0);
        Due.due("11: 0 is a number, too", x.as(5, 0), 0);
    }

    private static void askingOnTheLastDay() {
        LadderClub x = Clubs.names(3, "up 2;shy d=5&b=1"); // 999 is the fifth of seven
        for (int kind = 0; kind < 5; kind++) {
            x.asker(2, kind, 0);
            Due.due("12: on day 999, kind " + kind, x.asks(0, 2, 999), 0);
            Due.due("12: on day 0, kind " + kind, x.asks(0, 2, 0), kind < 2 ? 1 : 0);
        }
        Due.due("10: on day 999", x.may(0, 2, 999), 1);
        Due.due("10: on day 998", x.may(0, 2, 998), 3);
        Due.due("10: on day 5", x.may(0, 2, 5), 1);
    }

    private static void matches() {
        for (String wins : new String[] {"t", "c", "o"}) {
            LadderClub x = Clubs.names(6, "up 5;wins " + wins);
            x.asker(5, 6, 0);
            Due.due("13: " + wins + ", of a kind that asks nobody", x.match(0, 5, 0, true), wins.equals("o") ? 4 : 0);
            Due.due("13: " + wins + ", the board",
                Clubs.board(x, 0), wins.equals("o") ? 1012354 : wins.equals("c") ? 1512340 : 1501234);
            x.hang(5, 5);
            x.hang(0, 0);
            Due.due("13: " + wins + ", not its turn", x.match(0, 1, 0, true), 0);
            Due.due("13: " + wins + ", both change", Clubs.board(x, 0), 1102345);
            Due.due("13: " + wins + ", lost", x.match(0, 2, 1, false), 2);
            Due.due("13: " + wins + ", lost, the board", Clubs.board(x, 0), 1102345);
        }
        LadderClub y = Clubs.names(2, "up 1");
        y.chance(1, 0, 0);
        Due.due("13: won, however unlikely", y.match(0, 1, 0, true), 0);
        y.chance(0, 1, 100);
        Due.due("13: lost, however unlikely", y.match(0, 0, 1, false), 1);
        LadderClub z = Clubs.names(2, "up 1;shy d<6");
        Due.due("13: shy on day 0", z.match(0, 1, 0, true), LadderClub.STATE);
        z.pass(5);
        Due.due("13: shy on day 5", z.match(0, 1, 0, true), LadderClub.STATE);
        z.pass(1);
        Due.due("13: today, on day 6", z.match(0, 1, 0, true), 0);
        Due.due("13: today stays", z.count(2), 6);
    }

    private static void passing() {
        LadderClub x = new LadderClub();
        for (int i = 1; i <= 10; i++) {
            Due.due("14: 99 more", x.pass(99), 99 * i);
        }
        Due.due("14: 1000", x.pass(10), LadderClub.BAD);
        Due.due("14: 998", x.pass(8), 998);
        Due.due("14: 1000", x.pass(2), LadderClub.BAD);
        Due.due("14: 999", x.pass(1), 999);
        Due.due("14: beyond", x.pass(1), LadderClub.BAD);
        Due.due("14: still 999", x.count(2), 999);
    }
}
