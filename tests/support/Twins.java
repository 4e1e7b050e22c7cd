import java.util.HashMap;
import java.util.Map;

/**
 * Two objects with the same calls behind them, of which one gets a call more: all that can be seen of
 * one is held against all that can be seen of the other. Each look is at objects made for it alone, so
 * that a look may change what it looks at, and no object is used for more than 512 calls.
 */
final class Twins {
    interface Calls {
        void on(LadderClub x);
    }

    interface Call {
        long on(LadderClub x);
    }

    interface CallWith {
        long on(LadderClub x, int n);
    }

    private interface Look {
        void at(LadderClub x, StringBuilder seen);
    }

    private static final Look[] LOOKS = {
        Twins::lookAtBoard, Twins::lookAtAskings, Twins::lookAtDays, Twins::lookAtPast, Twins::lookAtRounds,
        Twins::lookAtRow, Twins::lookAtTape};
    private static final Map<Calls, String> SEEN = new HashMap<>();

    private Twins() {
    }

    static LadderClub after(Calls before) {
        LadderClub x = new LadderClub();
        before.on(x);
        return x;
    }

    /** The call is refused as is due, and changes nothing. */
    static void refused(String what, Calls before, Call call, long due) {
        Due.due(what, call.on(after(before)), due);
        keeps(what, before, call);
    }

    /** The call changes nothing, whatever it answers. */
    static void keeps(String what, Calls before, Call call) {
        alike(what + ": nothing changed", x -> {
            before.on(x);
            call.on(x);
        }, before);
    }

    /** The least and the most are not refused; one less, one more, and the ends of all numbers are. */
    static void range(String what, Calls before, CallWith call, int least, int most, long refusal) {
        for (int n : new int[] {least, most}) {
            Due.due(what + " " + n + " is not refused", call.on(after(before), n) != refusal);
        }
        for (int n : new int[] {least - 1, most + 1, Integer.MIN_VALUE, Integer.MAX_VALUE}) {
            refused(what + " " + n, before, x -> call.on(x, n), refusal);
        }
    }

    /** After the ones nothing can be seen that is not so after the others. */
    static void alike(String what, Calls ones, Calls others) {
        Due.due(what, seen(ones).equals(SEEN.computeIfAbsent(others, Twins::seen)));
    }

    static void different(String what, Calls ones, Calls others) {
        Due.due(what, !seen(ones).equals(SEEN.computeIfAbsent(others, Twins::seen)));
    }

    /** All that there is, and all that there is after undo(). */
    private static String seen(Calls calls) {
        StringBuilder seen = new StringBuilder();
        for (Look look : LOOKS) {
            look.at(after(calls), seen);
            LadderClub x = after(calls);
            seen.append(x.undo()).append(' ');
            look.at(x, seen);
        }
        return seen.toString();
    }

    private static void lookAtBoard(LadderClub x, StringBuilder seen) {
        for (int what = -1; what <= 7; what++) {
            seen.append(x.count(what)).append(' ');
        }
        for (int i = 0; i < 8; i++) {
            seen.append(x.trace(i)).append(' ');
        }
        seen.append(Clubs.board(x, 0)).append(' ').append(Clubs.board(x, 1)).append(' ').append(x.far());
        for (int a = 0; a < x.count(0); a++) {
            for (int b = 0; b < a; b++) {
                seen.append(' ').append(x.beats(a, b)).append(' ').append(x.beats(b, a));
            }
        }
    }

    private static void lookAtAskings(LadderClub x, StringBuilder seen) {
        int clubs = x.count(1);
        int names = x.count(0);
        for (int club = 0; club < clubs; club++) {
            for (int name = 0; name < names; name++) {
                for (int day = 4; day < 7; day++) {
                    seen.append(x.may(club, name, day)).append(' ').append(x.asks(club, name, day)).append(' ');
                }
            }
            seen.append(x.stuck(club, 0)).append(' ').append(x.stuck(club, 1)).append(' ');
        }
    }

    private static void lookAtDays(LadderClub x, StringBuilder seen) {
        seen.append(x.best(3)).append(' ').append(x.truly(0, 3, 0)).append(' ').append(x.truly(0, 3, 1));
        for (int name = 0; name < x.count(0); name++) {
            seen.append(' ').append(x.mean(0, 4, name, 0)).append(' ').append(x.mean(0, 4, name, 1));
            seen.append(' ').append(x.likely(0, 2, name)).append(' ').append(x.begin(0, 2, name));
        }
    }

    /** And the kinds, which are told as they are taken away. */
    private static void lookAtPast(LadderClub x, StringBuilder seen) {
        int names = x.count(0);
        for (int what = 0; what < 3; what++) {
            seen.append(x.really(what)).append(' ');
        }
        for (int a = 0; a < names; a++) {
            seen.append(x.order(a)).append(' ').append(x.as(a, 0)).append(' ').append(x.asker(a, 0, 0)).append(' ');
        }
        for (int a = 0; a < names; a++) {
            for (int b = 0; b < names; b++) {
                seen.append(x.past(a, b, 0)).append(' ');
            }
        }
    }

    /** By strengths that tell one match of the rounds from another. */
    private static void lookAtRounds(LadderClub x, StringBuilder seen) {
        int names = x.count(0);
        seen.append(x.sorts(0)).append(' ').append(x.sorts(1)).append(' ');
        for (int way = 0; way < 4; way++) {
            for (int a = 0; a < names; a++) {
                for (int b = 0; b < a; b++) {
                    boolean over = way == 0 || way == 1 && b > 0 || way == 2 && (a + b) % 3 > 0 || way == 3 && a - b == 2;
                    x.chance(a, b, over ? 60 : 40);
                }
            }
            seen.append(x.sorts(0)).append(' ');
        }
    }

    private static void lookAtRow(LadderClub x, StringBuilder seen) {
        int clubs = x.count(1);
        for (int club = 0; club < clubs; club++) {
            for (int day = 0; day < 7; day++) {
                seen.append(x.judged(club, day)).append(' ');
            }
        }
        for (int i = 0; i < 6; i++) {
            seen.append(x.row(-1)).append(' ').append(x.judged(0, 0)).append(' ');
        }
    }

    private static void lookAtTape(LadderClub x, StringBuilder seen) {
        seen.append(x.feed('2', 1)).append(' ');
        int club = x.club();
        seen.append(club).append(' ').append(x.count(5)).append(' ');
        for (int name = 0; name < x.count(0); name++) {
            seen.append(x.may(club, name, 6)).append(' ').append(x.share(club, 2, name, 0, 0)).append(' ');
        }
    }
}
