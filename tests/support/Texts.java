import java.util.Random;

/** Texts of clubs by chance: right ones, and ones with a fault. */
final class Texts {
    private static final String SIGNS = "upwinstcoshybld 0123456789aburcd<=>!()&|;;x";

    private Texts() {
    }

    /** The text of a club, 120 signs at most. */
    static String club(Random random) {
        for (int i = 0; i < 1000; i++) {
            StringBuilder text = new StringBuilder();
            int clauses = random.nextInt(6) == 0 ? 8 : 1 + random.nextInt(4);
            text.append(random.nextInt(5) > 0 ? "up " + (1 + random.nextInt(6)) : clause(random));
            for (int k = 1; k < clauses; k++) {
                text.append(';').append(clause(random));
            }
            if (text.length() <= 120) {
                return text.toString();
            }
        }
        return "up 3";
    }

    private static String clause(Random random) {
        switch (random.nextInt(6)) {
            case 0:
                return "up " + (random.nextInt(4) == 0 ? random.nextInt(100) : random.nextInt(5));
            case 1:
                return "wins " + "tco".charAt(random.nextInt(3));
            case 2:
            case 3:
                return "shy " + either(random, 0);
            default:
                return "bold " + either(random, 0);
        }
    }

    private static String either(Random random, int open) {
        return random.nextInt(4) == 0 ? both(random, open) + "|" + either(random, open) : both(random, open);
    }

    private static String both(Random random, int open) {
        return random.nextInt(4) == 0 ? factor(random, open) + "&" + both(random, open) : factor(random, open);
    }

    private static String factor(Random random, int open) {
        int most = random.nextInt(30) == 0 ? 7 : 5; // seldom more than may be open
        if (open < most && random.nextInt(3) == 0) {
            return random.nextBoolean() ? "!" + factor(random, open + 1) : "(" + either(random, open + 1) + ")";
        }
        char letter = "aburcd".charAt(random.nextInt(6));
        int number = letter == 'c' ? random.nextInt(100) : random.nextInt(7);
        return letter + "" + "<=>".charAt(random.nextInt(3)) + number;
    }

    /** The text with a sign or two changed, lost or come to it. */
    static String broken(Random random, String text) {
        StringBuilder changed = new StringBuilder(text);
        for (int times = random.nextInt(3); times > 0; times--) {
            int at = random.nextInt(changed.length() + 1);
            char sign = SIGNS.charAt(random.nextInt(SIGNS.length()));
            switch (random.nextInt(4)) {
                case 0:
                    changed.setLength(at);
                    break;
                case 1:
                    changed.insert(at, sign);
                    break;
                case 2:
                    changed.delete(at, at + 1);
                    break;
                default:
                    changed.replace(at, at + 1, "" + sign);
            }
        }
        changed.setLength(Math.min(changed.length(), 120));
        return changed.toString();
    }
}
