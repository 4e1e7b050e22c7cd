/** Ladders made ready for the tests of the promises. */
final class Clubs {
    private Clubs() {
    }

    /** A new object with so many names. */
    static LadderClub names(int many) {
        LadderClub x = new LadderClub();
        for (int i = 0; i < many; i++) {
            x.name();
        }
        return x;
    }

    /** A new object with so many names and one club, 0. */
    static LadderClub names(int many, String text) {
        LadderClub x = names(many);
        club(x, text);
        return x;
    }

    /** Feeds a text, eight signs a call, so that long ones leave calls for the rest of a test. */
    static void feed(LadderClub x, String text) {
        for (int from = 0; from < text.length(); from += 8) {
            int n = Math.min(8, text.length() - from);
            long w = 0;
            for (int i = from; i < from + n; i++) {
                w = w << 8 | text.charAt(i);
            }
            x.feed(w, n);
        }
    }

    /** Feeds a text to an empty tape and reads it. */
    static int club(LadderClub x, String text) {
        feed(x, text);
        return x.club();
    }

    /** The names on the rungs, as digits with a 1 ahead. */
    static long board(LadderClub x, int what) {
        long digits = 1;
        for (int rung = 0; rung < x.count(0); rung++) {
            digits = digits * 10 + x.board(rung, what);
        }
        return digits;
    }

    /** What every question of an object answers, so that a call can be shown to have changed nothing. */
    static String all(LadderClub x) {
        StringBuilder all = new StringBuilder();
        for (int what = 0; what < 7; what++) {
            all.append(x.count(what)).append(' ');
        }
        all.append(board(x, 0)).append(' ').append(board(x, 1));
        for (int a = 0; a < x.count(0); a++) {
            for (int b = 0; b < x.count(0); b++) {
                all.append(' ').append(x.beats(a, b));
            }
            for (int k = 0; k < 7; k++) {
                all.append(' ').append(x.as(a, k));
            }
            for (int c = 0; c < x.count(1); c++) {
                all.append(' ').append(x.may(c, a, 0)).append(' ').append(x.asks(c, a, 3));
            }
            all.append(' ').append(x.order(a));
        }
        for (int what = 0; what < 3; what++) {
            all.append(' ').append(x.really(what)).append(' ').append(x.sorts(what)).append(' ').append(x.trace(what));
        }
        return all.toString();
    }
}
