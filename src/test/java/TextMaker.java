import java.util.Random;

/** Makes texts by the document's grammar, and spoils them. */
final class TextMaker {
    private static final String[] WORDS = {"dries", "errs", "fine", "one", "dent", "coins", "brim", "of", "standard",
        "do", "by", "weep", "wash", "pour", "bend", "shrink", "day", "who", "stuff", "room", "kind", "drops", "tears",
        "above", "brims", "if", "then", "else", "end", "or", "and", "not", "<=", ">=", "<", ">", "=", "#", "+", "-",
        "*", "/", "(", ")", ";", "0", "3", "10", "61", "100", "10000", "x", "$", "Day"};
    private final Random random;

    TextMaker(Random random) {
        this.random = random;
    }

    String text() {
        StringBuilder made = new StringBuilder();
        String[] laws = {"dries", "errs", "fine"};
        int most = random.nextInt(5) == 0 ? 24 : 10;
        for (int i = 0; i < most; i++) {
            int law = random.nextInt(6);
            String clause;
            if (law < 3 && laws[law] != null) {
                boolean deep = random.nextInt(4) == 0;
                clause = laws[law] + " " + (deep ? chain(4 + random.nextInt(6)) : sum(random.nextInt(4), law > 0)) + ";";
            } else {
                clause = order() + ";";
            }
            if (made.length() + clause.length() <= 300) {
                made.append(clause);
                if (law < 3) {
                    laws[law] = null;
                }
            }
        }
        return made.toString();
    }

    /** One or two tokens out, in or changed, or a byte; often far from the start. */
    String spoiled(String text) {
        StringBuilder made = new StringBuilder(text);
        for (int i = 0; i <= random.nextInt(2); i++) {
            int at = made.length() == 0 ? 0 : random.nextInt(made.length());
            switch (random.nextInt(4)) {
                case 0: made.insert(at, " " + WORDS[random.nextInt(WORDS.length)] + " "); break;
                case 1: made.delete(at, Math.min(made.length(), at + 1 + random.nextInt(3))); break;
                case 2: made.setLength(at); break;
                default:
                    if (made.length() > 0) {
                        made.setCharAt(at, (char) random.nextInt(random.nextBoolean() ? 128 : 256));
                    }
                    break;
            }
        }
        made.setLength(Math.min(300, made.length()));
        return made.toString();
    }

    private int upTo(int least, int most) {
        return least + random.nextInt(most - least + 1);
    }

    private String order() {
        switch (random.nextInt(11)) {
            case 0: return "one " + upTo(0, 2) + " dent " + upTo(0, 9) + " coins " + upTo(0, 9999);
            case 1: return "brim " + upTo(0, 9) + " of " + upTo(0, 2);
            case 2: return "standard " + upTo(1, 99);
            case 3: return "weep " + upTo(1, 99) + " by " + upTo(0, 2);
            case 4: return "wash " + upTo(1, 9) + " of " + upTo(0, 2) + " by " + upTo(0, 2);
            case 5: return "pour " + upTo(0, 2) + " of " + upTo(0, 2);
            case 6: return "bend " + upTo(0, 5);
            case 7: return "shrink " + upTo(1, 9);
            case 8: return "day " + upTo(1, random.nextInt(4) == 0 ? 60 : 4);
            default: return "do " + upTo(1, 99) + " of " + upTo(0, 2) + " by " + upTo(0, 3);
        }
    }

    private String sum(int deep, boolean coins) {
        StringBuilder made = new StringBuilder(product(deep, coins));
        while (random.nextInt(3) == 0) {
            made.append(random.nextBoolean() ? "+" : "-").append(product(deep, coins));
        }
        return made.toString();
    }

    private String product(int deep, boolean coins) {
        StringBuilder made = new StringBuilder(single(deep, coins));
        while (random.nextInt(4) == 0) {
            made.append(random.nextBoolean() ? "*" : "/").append(single(deep, coins));
        }
        return made.toString();
    }

    private String single(int deep, boolean coins) {
        String[] names = {"day", "who", "stuff", "dent", "room", "kind", "drops", "coins", "tears"};
        int how = random.nextInt(deep > 0 ? 9 : 4);
        switch (how) {
            case 0: return Integer.toString(random.nextInt(10));
            case 1: return Integer.toString(random.nextInt(random.nextBoolean() ? 100 : 10000));
            case 2:
            case 3: return names[random.nextInt(coins ? 9 : 7)];
            case 4: return "(" + sum(deep - 1, coins) + ")";
            case 5: return "-" + single(deep - 1, coins);
            case 6: return "above " + single(deep - 1, coins) + " by " + single(deep - 1, coins);
            case 7: return "brims " + single(deep - 1, coins);
            default:
                return "if " + either(deep - 1, coins) + " then " + sum(deep - 1, coins) + " else "
                    + sum(deep - 1, coins) + " end";
        }
    }

    /** Open ones around one another, about as many as may be. */
    private String chain(int length) {
        String made = "drops";
        for (int i = 0; i < length; i++) {
            switch (random.nextInt(9)) {
                case 0: made = "(1+" + made + ")"; break;
                case 1: made = "-" + made; break;
                case 2: made = "above " + made + " by 1"; break;
                case 3: made = "above 9 by " + made; break;
                case 4: made = "brims " + made; break;
                case 5: made = "if 1=" + made + " then 2 else 3 end"; break;
                case 6: made = "if 1=1 then 2*" + made + " else 3 end"; break;
                case 7: made = "if 1#1 then 2 else " + made + " end"; break;
                default: made = "if not kind<" + made + " then 2 else 3 end"; break;
            }
        }
        return made;
    }

    private String either(int deep, boolean coins) {
        StringBuilder made = new StringBuilder(ask(deep, coins));
        while (random.nextInt(3) == 0) {
            made.append(random.nextBoolean() ? " or " : " and ").append(ask(deep, coins));
        }
        return made.toString();
    }

    private String ask(int deep, boolean coins) {
        String[] signs = {"<", "<=", ">", ">=", "=", "#"};
        if (deep > 0 && random.nextInt(4) == 0) {
            return "not " + ask(deep - 1, coins);
        }
        return sum(deep, coins) + signs[random.nextInt(6)] + sum(deep, coins);
    }
}
