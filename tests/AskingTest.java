/** Promises 8 to 14: the tape, clubs, askers, matches, days. */
public final class AskingTest {
    public static void main(String[] args) {
        promise8();
        promise9Texts();
        promise9Faults();
        promise9Full();
        promise10Tests();
        promise10Clauses();
        promise10Refusals();
        promise11();
        promise12();
        promise12Refusals();
        promise13();
        promise14();
        Due.end();
    }

    private static void promise8() {
        LadderClub x = Clubs.names(2);
        Due.due("8: the highest byte first", x.feed(0x7570203177696e73L, 4), 4); // the n lowest: "wins"
        Due.due("8: behind", x.feed(0xFFFFFFFFFFFF2074L, 2), 6);
        Due.due("8: and read", x.club(), 0);
        Due.due("8: all eight", x.feed(0x757020313b757020L, 8), 8);
        Due.due("8: one", x.feed(0x32, 1), 9);
        Due.due("8: none", x.feed(0x32, 0), LadderClub.BAD);
        Due.due("8: nine", x.feed(0x32, 9), LadderClub.BAD);
        Due.due("8: less than none", x.feed(0x32, Integer.MIN_VALUE), LadderClub.BAD);
        Due.due("8: and read", x.club(), 1);
        for (int i = 0; i < 14; i++) {
            x.feed(0, 8);
        }
        Due.due("8: 119", x.feed(0, 7), 119);
        Due.due("8: beyond 120", x.feed(0, 2), LadderClub.FULL);
        Due.due("8: BAD ahead of FULL", x.feed(0, 9), LadderClub.BAD);
        Due.due("8: 120", x.feed(0, 1), 120);
        Due.due("8: full", x.feed(0, 1), LadderClub.FULL);
        Due.due("8: still 120", x.count(5), 120);
    }

    private static void reads(String text) {
        LadderClub x = new LadderClub();
        Due.due("9: " + text, Clubs.club(x, text), 0);
        Due.due("9: the tape is empty then", x.count(5), 0);
        Due.due("9: the next one behind " + text, Clubs.club(x, text), 1);
    }

    private static void promise9Texts() {
        String[] right = {
            "up 0", "up 99", "wins t", "wins c", "wins o", "shy a<0", "bold d>99", "shy b=10", "bold r<7&u>0|c=50",
            "shy (a=1)", "shy !a=1", "shy !!!!!a=1", "shy (((((a=1)))))", "shy !(!(!a=1)&b=2)|c<5", "bold (a=1|b=2)&(r=1|u=2)",
            "shy !!!!!a=1&!!!!!b=2|!!!!!c=3", "shy (((((a=1)))))|(((((b=2)))))", "shy !((!(a=1)))&((((!d=1))))", "up 1;up 2;up 3;up 4;up 5;up 6;up 7;up 8",
            "wins o;wins t;shy a=1;bold b=2"};
        for (String text : right) {
            reads(text);
        }
        reads("bold a<1" + "|a<1".repeat(28)); // all 120 bytes
    }

    private static void faulty(String text, int fault) {
        LadderClub x = new LadderClub();
        Due.due("9: " + text, Clubs.club(x, text), -10 - fault);
        Due.due("9: the tape is empty then", x.count(5), 0);
        Due.due("9: no club came", x.count(1), 0);
    }

    private static void promise9Faults() {
        faulty("", 0);
        faulty(" up 1", 0);
        faulty("Up 1", 0);
        faulty("x", 0);
        faulty(";", 0);
        faulty("u", 1);
        faulty("ups 1", 2);
        faulty("up1", 2);
        faulty("up  1", 3);
        faulty("up ", 3);
        faulty("up x", 3);
        faulty("up -1", 3);
        faulty("up 00", 4);
        faulty("up 07", 4);
        faulty("up 123", 5);
        faulty("up 1 ", 4);
        faulty("up 1,up 2", 4);
        faulty("up 1;", 5);
        faulty("up 1; up 2", 5);
        faulty("up 1;;up 2", 5);
        faulty("wins", 4);
        faulty("wins ", 5);
        faulty("wins a", 5);
        faulty("wins to", 6);
        faulty("winner", 3);
        faulty("shy", 3);
        faulty("shy ", 4);
        faulty("shyly", 3);
        faulty("shy e<1", 4);
        faulty("shy a", 5);
        faulty("shy a!1", 5);
        faulty("shy a<=1", 6);
        faulty("shy a<", 6);
        faulty("shy a<01", 7);
        faulty("shy a<100", 8);
        faulty("shy a<1&", 8);
        faulty("shy a<1|", 8);
        faulty("shy a<1&&b<1", 8);
        faulty("shy a<1|;up 1", 8);
        faulty("shy a<1)", 7);
        faulty("shy (a<1", 8);
        faulty("shy (a<1;up 1", 8);
        faulty("shy ()", 5);
        faulty("shy !", 5);
        faulty("shy a<1!b<1", 7);
        faulty("bold (a<1)b<1", 10);
        faulty("bold (a<1)(", 10);
        faulty("bold (a<1)1", 10);
        faulty("bale", 1);
        reads("bold !!!!!a=1");
        reads("bold (((((a=1)))))");
        faulty("bold !!!!!!a=1", 10);
        faulty("shy !!!!!!a=1", 9);
        faulty("shy ((((((a=1))))))", 9);
        faulty("shy !(!(!(a=1)))", 9);
        faulty("shy (((((!a=1)))))", 9);
        faulty("shy !a=1&!!!!!!b=1", 14);
        faulty("up 1;up 1;up 1;up 1;up 1;up 1;up 1;up 1;", 39);
        faulty("up 1;up 1;up 1;up 1;up 1;up 1;up 1;up 1;up 1", 39);
        faulty("up 1\u00ff", 4);
        faulty("up 1\0", 4);
        faulty("shy a=1|" + "b=1|".repeat(28), 120);
    }

    private static void promise9Full() {
        LadderClub x = new LadderClub();
        for (int i = 0; i < 5; i++) {
            Due.due("9: a club", Clubs.club(x, "up " + i), i);
        }
        Due.due("9: FULL without a tape", x.club(), LadderClub.FULL);
        Clubs.feed(x, "nonsense");
        Due.due("9: FULL ahead of a fault", x.club(), LadderClub.FULL);
        Due.due("9: the tape stays", x.count(5), 8);
        Due.due("9: five", x.count(1), 5);
    }

    /** Whether 3 may ask 1 (on the rungs 3 and 1) by a club on a day. */
    private static boolean lets(String e, int day) {
        LadderClub x = Clubs.names(5, "up 9;shy " + e);
        x.chance(3, 1, 40);
        return (x.may(0, 3, day) & 2) == 0;
    }

    private static void promise10Tests() {
        String[] holding = {
            "a=3", "a<4", "a>2", "b=1", "b<2", "b>0", "r=3", "r<4", "r>2", "u=2", "u<3", "u>1", "c=40", "c<41", "c>39",
            "d=2", "d<3", "d>1", "!a=4", "!!a=3", "a=0|a=3", "a=3|a=0", "a=3&b=1", "!(a=3&b=2)", "(a=0|a=3)&b=1",
            "a=3|a=0&b=0", "a=0&b=0|a=3", "!a=0&b=1", "!(a=3)|b=1", "!a=3|a=3", "!(!(!a=0))&!(!(b=1))"};
        String[] failing = {
            "a=1", "a<3", "a>3", "b=3", "b<1", "b>1", "r=1", "r<3", "r>3", "u=1", "u<2", "u>2", "c=60", "c<40", "c>40",
            "d=9", "d<2", "d>2", "!a=3", "!!a=0", "a=0|a=1", "a=3&b=2", "b=2&a=3", "(a=3|a=0)&b=0", "!a=3&b=1", "!(a=3|b=9)"};
        for (String e : holding) {
            Due.due("10: " + e, lets(e, 9));
        }
        for (String e : failing) {
            Due.due("10: not " + e, !lets(e, 9));
        }
        Due.due("10: the rung of a, not its number", rungTold(), 1);
    }

    private static int rungTold() {
        LadderClub x = Clubs.names(3, "up 2;shy r=2");
        x.hang(2, 1); // 0 2 1
        return x.may(0, 2, 0) + x.may(0, 1, 0); // 2 on rung 1 may ask 0, 1 on rung 2 nobody
    }

    private static void promise10Clauses() {
        LadderClub x = Clubs.names(6, "wins c");
        Due.due("10: without up nobody", x.may(0, 5, 0), 0);
        Clubs.club(x, "up 2");
        Due.due("10: up 2", x.may(1, 5, 0), 0b011000);
        Due.due("10: the highest", x.may(1, 0, 0), 0);
        Due.due("10: right below it", x.may(1, 1, 0), 1);
        Clubs.club(x, "up 5;up 1");
        Due.due("10: the last up", x.may(2, 5, 0), 0b010000);
        Clubs.club(x, "up 99;shy b=4;shy u>3;bold d=6;bold b=0&a=5");
        Due.due("10: two shy, two bold", x.may(3, 5, 0), 0b001101);
        Due.due("10: the other bold", x.may(3, 5, 13), 0b011111);
        Due.due("10: the last day", x.may(3, 5, 999), 0b001101);
        Clubs.club(x, "wins o");
        Due.due("10: no up, behind a club with up", x.may(4, 5, 0), 0);
        x = Clubs.names(6, "shy a=0");
        for (int i = 1; i < 4; i++) {
            Clubs.club(x, "up 0");
        }
        Clubs.club(x, "bold a=5;up 1");
        Due.due("10: bold alone forbids nothing", x.may(4, 4, 0), 0b001000);
        x.hang(0, 5);
        Due.due("10: bits are names, not rungs", x.may(4, 0, 0), 0b100000);
    }

    private static void promise10Refusals() {
        LadderClub x = Clubs.names(2, "up 1");
        Due.due("10: no such club, ahead of BAD", x.may(1, 0, -1), LadderClub.NONE);
        Due.due("10: no such club", x.may(-1, 0, 0), LadderClub.NONE);
        Due.due("10: no such name, ahead of BAD", x.may(0, 2, 1000), LadderClub.NONE);
        Due.due("10: no such name", x.may(0, -1, 0), LadderClub.NONE);
        Due.due("10: no such day", x.may(0, 1, 1000), LadderClub.BAD);
        Due.due("10: no such day", x.may(0, 1, -1), LadderClub.BAD);
    }

    private static void promise11() {
        LadderClub x = Clubs.names(2);
        for (int kind = 0; kind < 7; kind++) {
            Due.due("11: which it had", x.asker(1, kind, 100 - kind), Math.max(0, kind - 1));
            Due.due("11: its number", x.as(1, kind), 100 - kind);
        }
        Due.due("11: 0 at first", x.as(0, 0), 0);
        String before = Clubs.all(x);
        Due.due("11: no such name, ahead of BAD", x.asker(2, 0, 101), LadderClub.NONE);
        Due.due("11: no such kind, ahead of BAD", x.asker(1, 7, -1), LadderClub.NONE);
        Due.due("11: no such kind", x.asker(1, -1, 0), LadderClub.NONE);
        Due.due("11: above 100", x.asker(1, 0, 101), LadderClub.BAD);
        Due.due("11: below 0", x.asker(1, 0, -1), LadderClub.BAD);
        Due.due("11: nothing changed", before.equals(Clubs.all(x)));
    }

    private static void asksBy(LadderClub x, int kind, int v, int want) {
        x.asker(5, kind, v);
        Due.due("12: kind " + kind + " with " + v, x.asks(0, 5, 0), want);
    }

    private static void promise12() {
        LadderClub x = Clubs.names(6, "up 4;shy b=3"); // 5 may ask 4, 2, 1
        Clubs.club(x, "up 4;wins o");
        x.chance(5, 4, 30);
        x.chance(5, 3, 99);
        x.chance(5, 2, 70);
        x.chance(5, 1, 70);
        x.chance(5, 0, 99);
        asksBy(x, 0, 0, 2); // of 2 and 1 the lowest
        asksBy(x, 1, 0, 4);
        asksBy(x, 2, 0, 1);
        asksBy(x, 3, 70, 1);
        asksBy(x, 3, 71, -5);
        asksBy(x, 3, 0, 1);
        asksBy(x, 4, 0, 1); // 4 * 70
        asksBy(x, 5, 4, 4);
        asksBy(x, 5, 3, -5); // it may not
        asksBy(x, 5, 5, -5); // itself
        asksBy(x, 5, 100, -5);
        asksBy(x, 5, 32, -5);
        asksBy(x, 6, 4, -5);
        x.asker(5, 4, 0);
        Due.due("12: BEST, one rung by each win", x.asks(1, 5, 0), 3);
        x.chance(5, 1, 10);
        x.chance(5, 2, 40);
        x.chance(5, 4, 100);
        x.asker(5, 4, 0);
        Due.due("12: BEST, 3 * 40 over 4 * 10 and 1 * 100", x.asks(0, 5, 0), 2);
        x.chance(5, 1, 30);
        Due.due("12: BEST, of like ones the highest", x.asks(0, 5, 0), 1);
        x.chance(5, 1, 0);
        x.chance(5, 2, 0);
        x.chance(5, 4, 0);
        Due.due("12: BEST, nothing to win", x.asks(0, 5, 0), 1);
        x.asker(5, 0, 0);
        Due.due("12: ASKER, nothing to win", x.asks(0, 5, 0), 4);
        x.chance(5, 4, 30);
        x.chance(5, 2, 29);
        x.chance(5, 1, 30);
        x.asker(5, 3, 30);
        x.hang(4, 1);
        Due.due("12: by the board", x.asks(0, 5, 0), 4);
        LadderClub y = Clubs.names(3, "up 2");
        int[] whom = {1, 1, 0, 0, 0};
        for (int kind = 0; kind < 5; kind++) {
            y.asker(2, kind, 50);
            Due.due("12: the highest and the next one, kind " + kind, y.asks(0, 2, 0), whom[kind]);
        }
    }

    private static void promise12Refusals() {
        LadderClub x = Clubs.names(3, "up 1;shy d=6");
        Due.due("12: the highest", x.asks(0, 0, 0), -5);
        Due.due("12: on a day", x.asks(0, 1, 5), 0);
        Due.due("12: on another day", x.asks(0, 1, 6), -5);
        Due.due("12: on the last day", x.asks(0, 1, 999), 0);
        Due.due("12: no such club, ahead of BAD", x.asks(1, 0, -1), LadderClub.NONE);
        Due.due("12: no such name, ahead of BAD", x.asks(0, 3, 1000), LadderClub.NONE);
        Due.due("12: no such day", x.asks(0, 0, 1000), LadderClub.BAD);
        Due.due("12: no such day", x.asks(0, 0, -1), LadderClub.BAD);
    }

    private static void wins(String how, long board, int rung) {
        LadderClub x = Clubs.names(5, "up 3;shy d=1" + how);
        Due.due("13: lost", x.match(0, 4, 1, false), 4);
        Due.due("13: as it was", Clubs.board(x, 0), 101234);
        Due.due("13: won" + how, x.match(0, 4, 1, true), rung);
        Due.due("13: the board" + how, Clubs.board(x, 0), board);
        Due.due("13: today stays", x.count(2), 0);
    }

    private static void promise13() {
        wins("", 104123, 1);
        wins(";wins t", 104123, 1);
        wins(";wins c", 104231, 1);
        wins(";wins o", 101243, 3);
        wins(";wins t;wins o", 101243, 3);
        LadderClub y = Clubs.names(3, "up 2;wins o");
        Clubs.club(y, "up 2");
        Due.due("13: wins t, behind a club with another", y.match(1, 2, 0, true), 0);
        LadderClub x = Clubs.names(5, "up 3;shy d=1");
        Due.due("13: no such club, ahead of BAD", x.match(1, 2, 2, true), LadderClub.NONE);
        Due.due("13: no such name, ahead of BAD", x.match(0, 5, 5, true), LadderClub.NONE);
        Due.due("13: no such name", x.match(0, 4, -1, true), LadderClub.NONE);
        Due.due("13: one name, ahead of STATE", x.match(0, 2, 2, true), LadderClub.BAD);
        Due.due("13: four rungs", x.match(0, 4, 0, true), LadderClub.STATE);
        Due.due("13: downwards", x.match(0, 0, 4, true), LadderClub.STATE);
        Due.due("13: as it was", Clubs.board(x, 0), 101234);
        x.pass(1);
        Due.due("13: not today", x.match(0, 4, 3, true), LadderClub.STATE);
        x.pass(1);
        Due.due("13: a win", x.match(0, 4, 3, true), 3);
    }

    private static void promise14() {
        LadderClub x = new LadderClub();
        Due.due("14: one", x.pass(1), 1);
        Due.due("14: 99", x.pass(99), 100);
        Due.due("14: 100", x.pass(100), LadderClub.BAD);
        Due.due("14: none", x.pass(0), LadderClub.BAD);
        Due.due("14: back", x.pass(-1), LadderClub.BAD);
        Due.due("14: wrapping", x.pass(Integer.MAX_VALUE), LadderClub.BAD);
        for (int i = 0; i < 9; i++) {
            x.pass(99);
        }
        Due.due("14: 991", x.count(2), 991);
        Due.due("14: beyond 999", x.pass(9), LadderClub.BAD);
        Due.due("14: still 991", x.count(2), 991);
        Due.due("14: 999", x.pass(8), 999);
        Due.due("14: the last", x.pass(1), LadderClub.BAD);
    }
}
