/** Calls that bring a new object to where it can be looked at: with nothing, something, or all that it can hold. */
final class States {
    static final Twins.Calls EMPTY = x -> { };
    static final Twins.Calls NAMELESS = x -> Clubs.club(x, "up 1");
    static final Twins.Calls CLUBLESS = x -> addNames(x, 3);
    /** Three names, two clubs, an image of something else, a bit of all else; no act. */
    static final Twins.Calls QUIET = States::quiet;
    /** The same behind an act of three bodies. */
    static final Twins.Calls SOME = x -> {
        quiet(x);
        x.act(1, 2, 5);
    };
    /** Six names, five clubs, the last day, and all else full; an image of less. */
    static final Twins.Calls CRAMMED = States::crammed;

    private States() {
    }

    static void addNames(LadderClub x, int many) {
        for (int i = 0; i < many; i++) {
            x.name();
        }
    }

    private static void quiet(LadderClub x) {
        addNames(x, 3);
        Clubs.club(x, "up 2;wins c");
        x.row(2);
        x.round(1, 2);
        x.past(0, 1, 4);
        x.chance(0, 2, 60);
        x.asker(0, 1, 9);
        Clubs.feed(x, "wins ");
        x.pass(3);
        x.image();
        Clubs.feed(x, "o;up 1");
        x.club();
        x.hang(2, 0); // 2 0 1
        x.chance(0, 2, 30);
        x.chance(1, 2, 70);
        x.asker(0, 2, 40);
        x.asker(2, 5, 1);
        x.row(-2);
        x.row(2);
        x.row(2);
        x.row(-1); // as they ask by club 0
        x.round(0, 2);
        x.round(0, 1);
        x.past(1, 2, 7);
        x.past(2, 0, 99);
        x.pass(9); // day 12: the turn of 1, the lowest
        Clubs.feed(x, "shy u=");
    }

    private static void crammed(LadderClub x) {
        addNames(x, 5);
        for (String text : new String[] {"up 1", "up 5", "up 9;wins o", "up 3;wins c;shy d=5"}) {
            Clubs.club(x, text);
        }
        x.chance(4, 0, 80);
        x.past(3, 1, 2);
        x.row(4);
        x.round(2, 4);
        x.asker(4, 3, 60);
        Clubs.feed(x, "bold !");
        x.pass(7);
        x.image();
        x.name();
        Clubs.feed(x, "b=5;up 2");
        x.club();
        for (int a = 0; a < 6; a++) {
            for (int b = 0; b < a; b++) {
                x.chance(a, b, (a * 17 + b * 29) % 101);
            }
            x.asker(a, a, 20 * a);
            x.past(a, (a + 2) % 6, 99 - a);
        }
        x.hang(5, 0);
        x.hang(3, 1);
        fill(x);
        x.act(3, 2, 5);
    }

    private static void fill(LadderClub x) {
        x.row(-2);
        for (int a = 0; a < 6; a++) {
            x.row(Math.max(-1, x.asks(1, a, 0)));
        }
        for (int i = 1; i < 15; i++) {
            x.round(i % 5, 5);
        }
        Clubs.feed(x, "shy a<10" + "|a<1".repeat(28));
        for (int i = 0; i < 10; i++) {
            x.pass(99);
        }
        x.pass(2);
    }
}
