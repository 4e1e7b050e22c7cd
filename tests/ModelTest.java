import java.util.Random;

/** Long runs of calls by fixed seeds, each answer held against that of the Model. */
public final class ModelTest {
    private static final String[] CALLS = {
        "name", "chance", "beats", "board", "hang", "far", "feed", "club", "may", "asker", "asks", "match", "pass",
        "share", "truly", "likely", "mean", "stuck", "ought", "row", "judged", "refuse", "begin", "best",
        "round", "sorts", "past", "really", "order", "run", "act", "trace", "as", "image", "undo", "count"};

    private final Random random;
    private final LadderClub club = new LadderClub();
    private final Model model = new Model();
    private final String about;
    /** How many of the names asked for are there; fewer of the dearest calls in small objects. */
    private final int names;
    /** How many calls the object has had: it is used for 512 at most, and one of the calls below makes 16 at most. */
    private int calls = 0;

    private ModelTest(int seed) {
        random = new Random(seed);
        about = "seed " + seed + ": ";
        names = seed % 8 == 0 ? random.nextInt(6) : 4 + random.nextInt(3);
    }

    public static void main(String[] args) {
        for (int seed = 1; seed <= 400; seed++) {
            new ModelTest(seed).go();
        }
        faultsOfTexts();
        Due.end();
    }

    private void go() {
        for (int i = 0; i < names; i++) {
            same(about + "name()", club.name(), model.name());
        }
        for (int a = 0; a < names; a++) {
            for (int b = 0; b < a; b++) {
                if (random.nextInt(4) > 0) {
                    setChance(a, b);
                }
            }
        }
        for (int i = 0; i < 3; i++) {
            feedText(Texts.club(random));
            same(about + "club()", club.club(), model.club());
        }
        while (calls <= 512 - 16) {
            call(CALLS[random.nextInt(CALLS.length)]);
        }
    }

    private void same(String call, long got, long want) {
        calls++;
        Due.due(call, got, want);
    }

    private void setChance(int a, int b) {
        int n = random.nextInt(3) == 0 ? random.nextInt(5) * 25 : random.nextInt(101);
        same(about + "chance(" + a + ", " + b + ", " + n + ")", club.chance(a, b, n), model.chance(a, b, n));
    }

    private void feedText(String text) {
        for (int from = 0; from < text.length(); from += 8) {
            int n = Math.min(8, text.length() - from);
            long w = random.nextLong();
            for (int i = 0; i < n; i++) {
                w = w << 8 | text.charAt(from + i) & 255;
            }
            same(about + "feed " + text, club.feed(w, n), model.feed(w, n));
        }
    }

    /** A number of 0 .. most - 1, seldom another one. */
    private int upTo(int most) {
        if (random.nextInt(40) == 0) {
            int[] odd = {-1, most, -2, most + 1, Integer.MIN_VALUE, Integer.MAX_VALUE, 100, -100};
            return odd[random.nextInt(odd.length)];
        }
        return most == 0 ? 0 : random.nextInt(most);
    }

    private int someName() {
        return upTo(names);
    }

    private int someClub() {
        return upTo(Math.max(1, model.count(1)));
    }

    private int someDay() {
        return upTo(random.nextInt(3) == 0 ? 1000 : 14);
    }

    private int someTurn() {
        return random.nextInt(4) > 0 && names > 0 ? Math.max(0, model.board(names - 1 - model.count(2) % names, 0)) : someName();
    }

    private void call(String call) {
        int c = someClub(), a = someName(), b = someName(), n = upTo(7), what = upTo(2), day = someDay();
        int rung = upTo(names), any = upTo(101), x = random.nextInt(3) == 0 ? random.nextInt() : random.nextInt(20);
        String as = about + call + "(..) of " + c + " " + a + " " + b + " " + n + " " + what + " " + day + " " + rung + " " + any + " " + x;
        switch (call) {
            case "name": if (random.nextInt(20) == 0 && names == 6) same(as, club.name(), model.name()); break;
            case "chance": setChance(a, b); break;
            case "beats": same(as, club.beats(a, b), model.beats(a, b)); break;
            case "board": same(as, club.board(rung, what), model.board(rung, what)); break;
            case "hang": same(as, club.hang(a, rung), model.hang(a, rung)); break;
            case "far": same(as, club.far(), model.far()); break;
            case "feed": feed(as); break;
            case "club": same(as, club.club(), model.club()); break;
            case "may": same(as, club.may(c, a, day), model.may(c, a, day)); break;
            case "asker": asker(as, a, any); break;
            case "asks": same(as, club.asks(c, a, day), model.asks(c, a, day)); break;
            case "match": same(as, club.match(c, a, b, x % 3 != 0), model.match(c, a, b, x % 3 != 0)); break;
            case "pass": int p = upTo(100) / (random.nextInt(3) == 0 ? 1 : 30);
                same(as + p, club.pass(p), model.pass(p)); break;
            case "row": row(as, c, day); break;
            case "image": if (random.nextInt(3) == 0) same(as, club.image(), model.image()); break;
            case "undo": if (random.nextInt(3) == 0) same(as, club.undo(), model.undo()); break;
            case "round": round(as); break;
            default: look(call, as, c, a, b, n, rung, any, x);
        }
    }

    private void look(String call, String as, int c, int a, int b, int n, int rung, int any, int x) {
        int what = upTo(2), day = someDay();
        switch (call) {
            case "share": same(as, club.share(c, n, a, rung, what), model.share(c, n, a, rung, what)); break;
            case "truly": same(as, club.truly(c, n, what), model.truly(c, n, what)); break;
            case "likely": same(as, club.likely(c, n, rung), model.likely(c, n, rung)); break;
            case "mean": same(as, club.mean(c, n, a, what), model.mean(c, n, a, what)); break;
            case "stuck": same(as, club.stuck(c, what), model.stuck(c, what)); break;
            case "ought": int t = someTurn(); same(as + t, club.ought(c, n, t), model.ought(c, n, t)); break;
            case "judged": same(as, club.judged(c, day), model.judged(c, day)); break;
            case "refuse": same(as, club.refuse(c, n, a, what), model.refuse(c, n, a, what)); break;
            case "begin": same(as, club.begin(c, n, a), model.begin(c, n, a)); break;
            case "best": same(as, club.best(n), model.best(n)); break;
            case "sorts": same(as, club.sorts(what), model.sorts(what)); break;
            case "past": same(as, club.past(a, b, any % 9), model.past(a, b, any % 9)); break;
            case "really": int w = upTo(3); same(as + w, club.really(w), model.really(w)); break;
            case "order": same(as, club.order(rung), model.order(rung)); break;
            case "run": int d = 1 + random.nextInt(9), s = upTo(1000);
                same(as + d + " " + s, club.run(c, d, s), model.run(c, d, s)); break;
            case "act": int k = upTo(3); same(as + k, club.act(a, k, x), model.act(a, k, x)); break;
            case "trace": int i = upTo(7); same(as + i, club.trace(i), model.trace(i)); break;
            case "as": int kind = upTo(7); same(as + kind, club.as(a, kind), model.as(a, kind)); break;
            default: int count = upTo(7); same(as + count, club.count(count), model.count(count));
        }
    }

    private void feed(String as) {
        if (random.nextInt(3) > 0) {
            feedText(Texts.club(random));
            same(about + "club()", club.club(), model.club());
        } else {
            long w = random.nextLong();
            int n = upTo(9);
            same(as, club.feed(w, n), model.feed(w, n));
        }
    }

    private void asker(String as, int a, int any) {
        int kind = upTo(7);
        int v = kind == 5 ? upTo(7) : any;
        same(as + kind + " " + v, club.asker(a, kind, v), model.asker(a, kind, v));
    }

    private void round(String as) {
        int i = random.nextInt(15) == 0 ? -1 : upTo(6);
        int j = random.nextInt(3) == 0 ? upTo(6) : i + 1;
        if (j >= names && random.nextInt(12) > 0) {
            return;
        }
        same(as + i + " " + j, club.round(i, j), model.round(i, j));
    }

    private void row(String as, int c, int day) {
        int name = upTo(8) - 2;
        same(as + name, club.row(name), model.row(name));
        if (random.nextInt(3) == 0) {
            same(as, club.row(-2), model.row(-2));
            for (int a = 0; a < names; a++) {
                int asked = random.nextInt(15) == 0 ? upTo(6) : Math.max(-1, model.asks(c, a, day));
                same(as, club.row(asked), model.row(asked));
            }
            same(as + " judged", club.judged(c, day), model.judged(c, day));
        }
    }

    private static void faultsOfTexts() {
        Random random = new Random(77);
        LadderClub reader = null;
        for (int i = 0; i < 60000; i++) {
            if (i % 4 == 0) {
                reader = new LadderClub();
            }
            String text = Texts.broken(random, Texts.club(random));
            for (int from = 0; from < text.length(); from++) {
                reader.feed(text.charAt(from), 1);
            }
            int fault = Model.fault(text);
            int got = reader.club();
            Due.due("club() of " + text, fault < 0 ? (got >= 0 ? -1 : got) : got, fault < 0 ? -1 : -10 - fault);
        }
    }
}
