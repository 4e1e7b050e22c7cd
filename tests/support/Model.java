import java.math.BigInteger;
import java.util.ArrayList;
import java.util.HashMap;
import java.util.List;
import java.util.Map;

/**
 * The document once more, written another way (lists, texts, big fractions), so that the
 * program can be held against it. Slow, and free to use the whole Java library.
 */
final class Model {
    static final int NONE = -1, BAD = -2, STATE = -3, FULL = -4, NOBODY = -5;
    static final long NO = Long.MIN_VALUE;
    private static final int[] ABOVE = {-1, 0, 0, 2, 2, 0, 5};

    private List<Integer> board = new ArrayList<>();
    private int[][] chance = new int[6][6];
    private int[][] past = new int[6][6];
    private int[] kind = new int[6];
    private int[] v = new int[6];
    private String tape = "";
    private List<String> clubs = new ArrayList<>();
    private int today = 0;
    private List<Integer> row = new ArrayList<>();
    private List<int[]> rounds = new ArrayList<>();
    private Model image = null;
    private List<Integer> trace = new ArrayList<>();

    Model() {
        for (int[] c : chance) {
            java.util.Arrays.fill(c, 50);
        }
    }

    private void take(Model o) {
        board = new ArrayList<>(o.board);
        for (int i = 0; i < 6; i++) {
            chance[i] = o.chance[i].clone();
            past[i] = o.past[i].clone();
        }
        kind = o.kind.clone();
        v = o.v.clone();
        tape = o.tape;
        clubs = new ArrayList<>(o.clubs);
        today = o.today;
        row = new ArrayList<>(o.row);
        rounds = new ArrayList<>(o.rounds);
    }

    // ---- names, the board

    int name() {
        if (board.size() == 6) return FULL;
        board.add(board.size());
        return board.size() - 1;
    }

    private boolean named(int... names) {
        for (int n : names) if (!board.contains(n)) return false;
        return true;
    }

    private boolean runged(int rung) {
        return 0 <= rung && rung < board.size();
    }

    int chance(int a, int b, int n) {
        if (!named(a, b)) return NONE;
        if (a == b || n < 0 || 100 < n) return BAD;
        int was = chance[a][b];
        chance[a][b] = n;
        chance[b][a] = 100 - n;
        return was;
    }

    int beats(int a, int b) {
        if (!named(a, b)) return NONE;
        return a == b ? BAD : chance[a][b];
    }

    private boolean stronger(int a, int b) {
        return a != b && chance[a][b] > 50;
    }

    private List<Integer> truth() {
        List<Integer> names = new ArrayList<>();
        for (int a = 0; a < board.size(); a++) names.add(a);
        names.sort((a, b) -> strength(a) != strength(b) ? strength(b) - strength(a) : a - b);
        return names;
    }

    private int strength(int a) {
        return (int) board.stream().filter(b -> stronger(a, b)).count();
    }

    int board(int rung, int what) {
        if (!runged(rung) || what != 0 && what != 1) return NONE;
        return (what == 0 ? board : truth()).get(rung);
    }

    int hang(int name, int rung) {
        if (!named(name) || !runged(rung)) return NONE;
        int was = board.indexOf(name);
        board = hung(name, rung);
        return was;
    }

    private List<Integer> hung(int name, int rung) {
        List<Integer> b = new ArrayList<>(board);
        b.remove(Integer.valueOf(name));
        b.add(rung, name);
        return b;
    }

    int far() {
        List<Integer> t = truth();
        int off = 0;
        for (int a = 0; a < t.size(); a++)
            for (int b = 0; b < a; b++)
                if (t.indexOf(a) < t.indexOf(b) != board.indexOf(a) < board.indexOf(b)) off++;
        return off;
    }

    // ---- clubs, askers

    int feed(long w, int n) {
        if (n < 1 || n > 8) return BAD;
        if (tape.length() + n > 120) return FULL;
        StringBuilder more = new StringBuilder();
        for (int i = 0; i < n; i++) {
            more.insert(0, (char) (w & 255));
            w >>>= 8;
        }
        tape += more;
        return tape.length();
    }

    int club() {
        if (clubs.size() == 5) return FULL;
        String text = tape;
        tape = "";
        int fault = fault(text);
        if (fault >= 0) return -10 - fault;
        clubs.add(text);
        return clubs.size() - 1;
    }

    /** The fault of a text, or -1: sign by sign, with what is open on a stack. */
    static int fault(String text) {
        String mode = "clause"; // what is due
        String word = "";       // what of a word is due
        String then = "";       // what is due behind the word
        String open = "";
        String number = "";
        int clauses = 0;
        for (int i = 0; i < text.length(); i++) {
            char c = text.charAt(i);
            if (mode.equals("number") && Character.isDigit(c) && c < 128
                    && (number.isEmpty() || number.length() == 1 && !number.equals("0"))) {
                number += c;
                continue;
            }
            if (mode.equals("number")) {
                if (number.isEmpty()) return i;
                mode = "behind";
                open = open.replaceAll("!+$", "");
            }
            if (mode.equals("word")) {
                if (word.charAt(0) != c) return i;
                word = word.substring(1);
                if (word.isEmpty()) mode = then;
            } else if (mode.equals("clause")) {
                clauses++;
                if (c == 'u') { word = "p "; then = "number"; number = ""; }
                else if (c == 'w') { word = "ins "; then = "wins"; }
                else if (c == 's') { word = "hy "; then = "factor"; }
                else if (c == 'b') { word = "old "; then = "factor"; }
                else return i;
                mode = "word";
                number = "";
                open = then.equals("factor") ? "E" : "";
            } else if (mode.equals("wins")) {
                if (c != 't' && c != 'c' && c != 'o') return i;
                mode = "behind";
            } else if (mode.equals("factor")) {
                if (c == '!' || c == '(') {
                    if (open.length() == 6) return i;
                    open += c;
                } else if ("aburcd".indexOf(c) >= 0) mode = "sign";
                else return i;
            } else if (mode.equals("sign")) {
                if ("<=>".indexOf(c) < 0) return i;
                mode = "number";
                number = "";
            } else if (c == ';' && open.length() < 2 && clauses < 8) mode = "clause";
            else if ((c == '&' || c == '|') && !open.isEmpty()) mode = "factor";
            else if (c == ')' && open.endsWith("(")) {
                open = open.substring(0, open.length() - 1).replaceAll("!+$", "");
            } else return i;
        }
        if (mode.equals("number") && !number.isEmpty()) {
            mode = "behind";
            open = open.replaceAll("!+$", "");
        }
        return mode.equals("behind") && open.length() < 2 ? -1 : text.length();
    }

    private boolean clubbed(int club) {
        return 0 <= club && club < clubs.size();
    }

    private int up(int club) {
        int up = 0;
        for (String clause : clubs.get(club).split(";"))
            if (clause.startsWith("up ")) up = Integer.parseInt(clause.substring(3));
        return up;
    }

    private char wins(int club) {
        char wins = 't';
        for (String clause : clubs.get(club).split(";"))
            if (clause.startsWith("wins ")) wins = clause.charAt(5);
        return wins;
    }

    /** Where a text is cut at a sign outside of all ( and ). */
    private static List<String> cut(String text, char sign) {
        List<String> parts = new ArrayList<>();
        int open = 0;
        int from = 0;
        for (int i = 0; i < text.length(); i++) {
            char c = text.charAt(i);
            if (c == '(') open++;
            if (c == ')') open--;
            if (c == sign && open == 0) {
                parts.add(text.substring(from, i));
                from = i + 1;
            }
        }
        parts.add(text.substring(from));
        return parts;
    }

    private static boolean true_(String e, Map<Character, Integer> facts) {
        if (cut(e, '|').size() > 1) return cut(e, '|').stream().anyMatch(t -> true_(t, facts));
        if (cut(e, '&').size() > 1) return cut(e, '&').stream().allMatch(f -> true_(f, facts));
        if (e.startsWith("!")) return !true_(e.substring(1), facts);
        if (e.startsWith("(")) return true_(e.substring(1, e.length() - 1), facts);
        int is = facts.get(e.charAt(0));
        int told = Integer.parseInt(e.substring(2));
        return e.charAt(1) == '<' ? is < told : e.charAt(1) == '=' ? is == told : is > told;
    }

    private boolean mayAsk(int club, List<Integer> on, int a, int b, int day) {
        int u = on.indexOf(a) - on.indexOf(b);
        if (u < 1 || u > up(club)) return false;
        Map<Character, Integer> facts = new HashMap<>();
        facts.put('a', a);
        facts.put('b', b);
        facts.put('r', on.indexOf(a));
        facts.put('u', u);
        facts.put('c', chance[a][b]);
        facts.put('d', day % 7);
        boolean shy = false;
        boolean bold = false;
        for (String clause : clubs.get(club).split(";")) {
            if (clause.startsWith("shy ")) shy |= true_(clause.substring(4), facts);
            if (clause.startsWith("bold ")) bold |= true_(clause.substring(5), facts);
        }
        return !shy || bold;
    }

    int may(int club, int name, int day) {
        if (!clubbed(club) || !named(name)) return NONE;
        if (day < 0 || day > 999) return BAD;
        int bits = 0;
        for (int b : board) if (mayAsk(club, board, name, b, day)) bits += 1 << b;
        return bits;
    }

    int asker(int name, int k, int w) {
        if (!named(name) || k < 0 || k > 6) return NONE;
        if (w < 0 || w > 100) return BAD;
        int was = kind[name];
        kind[name] = k;
        v[name] = w;
        return was;
    }

    /** Whom a asks; nobody may ask the name refused. */
    private int whom(int club, List<Integer> on, int a, int day, int refused) {
        List<Integer> may = new ArrayList<>(); // the highest first
        for (int b : on) if (b != refused && mayAsk(club, on, a, b, day)) may.add(b);
        int lowest = may.size() - 1;
        if (may.isEmpty()) return NOBODY;
        int to = NOBODY;
        switch (kind[a]) {
            case 0:
                for (int i = lowest; i >= 0; i--)
                    if (to == NOBODY || chance[a][may.get(i)] > chance[a][to]) to = may.get(i);
                return to;
            case 1: return may.get(lowest);
            case 2: return may.get(0);
            case 3: return may.stream().filter(b -> chance[a][b] >= v[a]).findFirst().orElse(NOBODY);
            case 4:
                for (int b : may) if (to == NOBODY || hope(club, on, a, b) > hope(club, on, a, to)) to = b;
                return to;
            case 5: return may.contains(v[a]) ? v[a] : NOBODY;
            default: return NOBODY;
        }
    }

    private int hope(int club, List<Integer> on, int a, int b) {
        return (on.indexOf(a) - won(club, on, a, b).indexOf(a)) * chance[a][b];
    }

    private List<Integer> won(int club, List<Integer> on, int a, int b) {
        List<Integer> then = new ArrayList<>(on);
        int i = on.indexOf(a);
        int j = on.indexOf(b);
        if (wins(club) == 'c') {
            then.set(i, b);
            then.set(j, a);
        } else {
            then.remove(i);
            then.add(wins(club) == 'o' ? i - 1 : j, a);
        }
        return then;
    }

    int asks(int club, int name, int day) {
        if (!clubbed(club) || !named(name)) return NONE;
        return day < 0 || day > 999 ? BAD : whom(club, board, name, day, -1);
    }

    int match(int club, int a, int b, boolean wins) {
        if (!clubbed(club) || !named(a, b)) return NONE;
        if (a == b) return BAD;
        if (!mayAsk(club, board, a, b, today)) return STATE;
        if (wins) board = won(club, board, a, b);
        return board.indexOf(a);
    }

    int pass(int n) {
        if (n < 1 || n > 99 || today + n > 999) return BAD;
        return today += n;
    }

    // ---- behind days

    private int turn(List<Integer> on, int day) {
        return on.get(on.size() - 1 - day % on.size());
    }

    private Map<List<Integer>, BigInteger> after(int club, Map<List<Integer>, BigInteger> from, int day, int refused) {
        Map<List<Integer>, BigInteger> then = new HashMap<>();
        from.forEach((on, weight) -> {
            int a = turn(on, day);
            play(club, then, on, a, whom(club, on, a, day, refused), weight);
        });
        return then;
    }

    private void play(int club, Map<List<Integer>, BigInteger> then, List<Integer> on, int a, int b, BigInteger weight) {
        int c = b == NOBODY ? 0 : chance[a][b];
        then.merge(on, weight.multiply(BigInteger.valueOf(100 - c)), BigInteger::add);
        if (c > 0) then.merge(won(club, on, a, b), weight.multiply(BigInteger.valueOf(c)), BigInteger::add);
    }

    private Map<List<Integer>, BigInteger> behind(int club, int n, List<Integer> on, int refused) {
        Map<List<Integer>, BigInteger> boards = new HashMap<>();
        boards.put(on, BigInteger.ONE);
        for (int i = 0; i < n; i++) boards = after(club, boards, today + i, refused);
        return boards;
    }

    private static BigInteger rungs(Map<List<Integer>, BigInteger> boards, int name) {
        BigInteger sum = BigInteger.ZERO;
        for (Map.Entry<List<Integer>, BigInteger> e : boards.entrySet())
            sum = sum.add(e.getValue().multiply(BigInteger.valueOf(e.getKey().indexOf(name))));
        return sum;
    }

    private static long part(BigInteger above, int n, int part) {
        BigInteger below = BigInteger.TEN.pow(2 * n);
        return (part == 0 ? above : below).divide(above.gcd(below)).longValueExact();
    }

    private boolean no(int club, int n, int part) {
        return !clubbed(club) || n < 0 || n > 6 || part != 0 && part != 1;
    }

    long share(int club, int n, int name, int rung, int part) {
        if (no(club, n, part) || !named(name) || !runged(rung)) return NO;
        BigInteger sum = BigInteger.ZERO;
        for (Map.Entry<List<Integer>, BigInteger> e : behind(club, n, board, -1).entrySet())
            if (e.getKey().get(rung) == name) sum = sum.add(e.getValue());
        return part(sum, n, part);
    }

    private BigInteger trueBehind(int club, int n, List<Integer> on) {
        return behind(club, n, on, -1).getOrDefault(truth(), BigInteger.ZERO);
    }

    long truly(int club, int n, int part) {
        if (no(club, n, part) || board.isEmpty()) return NO;
        return part(trueBehind(club, n, board), n, part);
    }

    int likely(int club, int n, int rung) {
        if (!clubbed(club) || !runged(rung)) return NONE;
        if (n < 0 || n > 6) return BAD;
        List<Integer> best = null;
        Map<List<Integer>, BigInteger> boards = behind(club, n, board, -1);
        for (List<Integer> on : boards.keySet()) {
            int more = best == null ? 1 : boards.get(on).compareTo(boards.get(best));
            if (more > 0 || more == 0 && on.toString().compareTo(best.toString()) < 0) best = on;
        }
        return best.get(rung);
    }

    long mean(int club, int n, int name, int part) {
        if (no(club, n, part) || !named(name)) return NO;
        return part(rungs(behind(club, n, board, -1), name), n, part);
    }

    int stuck(int club, int what) {
        if (!clubbed(club) || what != 0 && what != 1) return NONE;
        int stuck = 0;
        int hanging = 0;
        for (int a : board)
            for (int b : board)
                if (board.indexOf(a) > board.indexOf(b) && stronger(a, b)) {
                    boolean asked = false;
                    boolean askedByAny = false;
                    for (int day = 0; day < 7; day++) {
                        asked |= whom(club, board, a, day, -1) == b;
                        for (int x : board) askedByAny |= whom(club, board, x, day, -1) == b;
                    }
                    if (!asked) stuck |= 1 << a;
                    if (!askedByAny) hanging |= 1 << b;
                }
        return what == 0 ? stuck : hanging;
    }

    int ought(int club, int n, int name) {
        if (!clubbed(club) || !named(name)) return NONE;
        if (n < 1 || n > 6) return BAD;
        if (turn(board, today) != name) return STATE;
        List<Integer> choices = new ArrayList<>();
        choices.add(NOBODY);
        for (int b = 0; b < board.size(); b++) if (mayAsk(club, board, name, b, today)) choices.add(b);
        int best = 0;
        BigInteger least = null;
        for (int b : choices) {
            Map<List<Integer>, BigInteger> boards = new HashMap<>();
            play(club, boards, board, name, b, BigInteger.ONE);
            for (int i = 1; i < n; i++) boards = after(club, boards, today + i, -1);
            BigInteger sum = rungs(boards, name);
            if (least == null || sum.compareTo(least) < 0) {
                least = sum;
                best = b;
            }
        }
        return best;
    }

    int row(int name) {
        if (name == -2) {
            row.clear();
            return 0;
        }
        if (name < -1 || name > 5) return BAD;
        if (row.size() == 6) return FULL;
        row.add(name);
        return row.size();
    }

    int judged(int club, int day) {
        if (!clubbed(club)) return NONE;
        if (day < 0 || day > 999) return BAD;
        if (row.size() != board.size()) return STATE;
        for (int a = 0; a < row.size(); a++) {
            int asked = whom(club, board, a, day, -1);
            if (row.get(a) != (asked == NOBODY ? -1 : asked)) return a;
        }
        return NOBODY;
    }

    long refuse(int club, int n, int name, int part) {
        if (no(club, n, part) || !named(name)) return NO;
        BigInteger open = rungs(behind(club, n, board, -1), name);
        return part(open.subtract(rungs(behind(club, n, board, name), name)), n, part);
    }

    int begin(int club, int n, int name) {
        if (!clubbed(club) || !named(name)) return NONE;
        if (n < 0 || n > 6) return BAD;
        int best = 0;
        for (int rung = 1; rung < board.size(); rung++)
            if (trueBehind(club, n, hung(name, rung)).compareTo(trueBehind(club, n, hung(name, best))) > 0) best = rung;
        return best;
    }

    int best(int n) {
        if (n < 0 || n > 6) return BAD;
        if (board.isEmpty() || clubs.isEmpty()) return NOBODY;
        int best = 0;
        for (int c = 1; c < clubs.size(); c++)
            if (trueBehind(c, n, board).compareTo(trueBehind(best, n, board)) > 0) best = c;
        return best;
    }

    // ---- rounds, the past, runs

    int round(int i, int j) {
        if (i == -1) {
            rounds.clear();
            return 0;
        }
        if (i < 0 || i > 5 || j < 0 || j > 5 || i >= j) return BAD;
        if (rounds.size() == 15) return FULL;
        rounds.add(new int[] {i, j});
        return rounds.size();
    }

    private List<List<Integer>> orders(List<Integer> names) {
        List<List<Integer>> all = new ArrayList<>();
        if (names.isEmpty()) all.add(new ArrayList<>());
        for (int first : names) {
            List<Integer> others = new ArrayList<>(names);
            others.remove(Integer.valueOf(first));
            for (List<Integer> rest : orders(others)) {
                rest.add(0, first);
                all.add(rest);
            }
        }
        return all;
    }

    private List<List<Integer>> orders() {
        List<Integer> names = new ArrayList<>(board);
        names.sort(null);
        return orders(names);
    }

    int sorts(int what) {
        if (what != 0 && what != 1) return NONE;
        for (int[] m : rounds) if (!runged(m[1])) return STATE;
        int sorted = 0;
        int all = 0;
        for (List<Integer> on : orders()) {
            for (int[] m : rounds) if (stronger(on.get(m[1]), on.get(m[0]))) java.util.Collections.swap(on, m[0], m[1]);
            boolean good = true;
            for (int r = 1; r < on.size(); r++) good &= !stronger(on.get(r), on.get(r - 1));
            if (good) sorted++;
            all++;
        }
        return what == 0 ? sorted : all;
    }

    int past(int a, int b, int n) {
        if (!named(a, b)) return NONE;
        if (a == b || n < 0 || n > 99) return BAD;
        int was = past[a][b];
        past[a][b] = n;
        return was;
    }

    private int lost(List<Integer> on) {
        int lost = 0;
        for (int a : on) for (int b : on) if (on.indexOf(a) > on.indexOf(b)) lost += past[a][b];
        return lost;
    }

    private List<Integer> fewest() {
        List<Integer> best = null;
        for (List<Integer> on : orders()) if (best == null || lost(on) < lost(best)) best = on;
        return best;
    }

    int really(int what) {
        if (what < 0 || what > 2) return NONE;
        if (what == 2) return lost(fewest());
        int threes = 0;
        int never = 0;
        for (int a : board)
            for (int b : board) {
                if (a < b && past[a][b] + past[b][a] == 0) never++;
                for (int c : board)
                    if (a < b && a < c && past[a][b] > past[b][a] && past[b][c] > past[c][b] && past[c][a] > past[a][c]) threes++;
            }
        return what == 0 ? threes : never;
    }

    int order(int i) {
        return runged(i) ? fewest().get(i) : NONE;
    }

    int run(int club, int n, int seed) {
        if (!clubbed(club)) return NONE;
        if (n < 1 || n > 99 || seed < 0 || seed > 999 || today + n > 999) return BAD;
        for (; n > 0; n--) {
            if (!board.isEmpty()) {
                int a = turn(board, today);
                int b = whom(club, board, a, today, -1);
                if (b != NOBODY && (seed * 31 + today * 17) * 7 % 100 < chance[a][b]) board = won(club, board, a, b);
            }
            today++;
        }
        return far();
    }

    // ---- acts, the image

    int act(int name, int act, int x) {
        trace = new ArrayList<>();
        if (!named(name) || act < 0 || act > 2) return 0;
        return body(name, kind[name], act, x);
    }

    /** An act by the body of a kind, or of the next one above that has one. */
    private int body(int name, int k, int act, int x) {
        int own = kind[name];
        int i = name;
        int w = v[name];
        switch (k * 10 + act) {
            case 0: trace.add(1); return x + i;
            case 1: trace.add(2); return body(name, own, 0, x) - w;
            case 2: trace.add(3); return body(name, own, 1, x) * 2;
            case 10: trace.add(11); return body(name, 0, 0, x * 3);
            case 21: trace.add(21); return -body(name, 0, 1, x);
            case 52: trace.add(31); return body(name, 0, 2, x) ^ 7;
            case 32: trace.add(41); return body(name, 2, 2, x - 1) + body(name, own, 0, 2);
            case 40: trace.add(51); return body(name, 2, 0, x) ^ i;
            case 61: trace.add(61); return body(name, 5, 1, x) + w;
            default: return body(name, ABOVE[k], act, x);
        }
    }

    int trace(int i) {
        return 0 <= i && i < Math.min(trace.size(), 20) ? trace.get(i) : NONE;
    }

    int as(int name, int k) {
        if (!named(name) || k < 0 || k > 6) return NONE;
        for (int at = kind[name]; at >= 0; at = ABOVE[at]) if (at == k) return v[name];
        return -6;
    }

    int image() {
        image = new Model();
        image.take(this);
        return today;
    }

    int undo() {
        if (image == null) return STATE;
        take(image);
        return today;
    }

    int count(int what) {
        int[] counts = {board.size(), clubs.size(), today, rounds.size(), row.size(), tape.length(), trace.size()};
        return 0 <= what && what < 7 ? counts[what] : NONE;
    }
}
