import java.util.ArrayList;
import java.util.Arrays;
import java.util.Comparator;
import java.util.HashSet;
import java.util.List;
import java.util.Set;
import java.util.function.IntPredicate;
import java.util.function.ToLongFunction;

/**
 * The document once more, written as differently as its words allow (whole copies for steps and the image,
 * trees for laws, brute force for searches), so that a slip in the class and one here are seldom the same.
 */
final class PlainModel {
    record Person(int stuff, int dent, int coins, int[] drops) {
        Person copy() {
            return new Person(stuff, dent, coins, drops.clone());
        }
    }

    record Fine(int day, int who, int kind, int coins) { }

    record Clause(String word, int[] numbers) { }

    record Case(int day, int who, Person person, int room, int kind, int drops) { }

    interface Law {
        long of(Case c);
    }

    static final class Text {
        final List<Clause> clauses = new ArrayList<>();
        Law dries;
        Law errs;
        Law fine;
    }

    static final class FaultFound extends RuntimeException {
        private static final long serialVersionUID = 1;
        final int what;
        final int place;

        FaultFound(int what, int place) {
            this.what = what;
            this.place = place;
        }
    }

    static final class State {
        List<Person> people = new ArrayList<>();
        int standard = 20;
        int day;
        int x = 157;
        int[] brims = {3, 2, 1};
        List<Fine> book = new ArrayList<>();
        List<State> steps = new ArrayList<>();
        List<Text> texts = new ArrayList<>();
        int law = -1;
        List<int[]> deeds = new ArrayList<>();
        List<int[]> years = new ArrayList<>();
        List<int[]> dried = new ArrayList<>();
        int[][] ways = new int[6][6];
        int[] costs = {1, 1, 1};

        State copy(boolean whole) {
            State s = new State();
            for (Person p : people) {
                s.people.add(p.copy());
            }
            s.standard = standard;
            s.day = day;
            s.x = x;
            s.book = new ArrayList<>(book);
            if (whole) {
                s.brims = brims.clone();
                for (State step : steps) {
                    s.steps.add(step.copy(false));
                }
                s.texts = new ArrayList<>(texts);
                s.law = law;
                s.deeds = new ArrayList<>(deeds);
                s.years = new ArrayList<>(years);
                s.dried = new ArrayList<>(dried);
                for (int i = 0; i < 6; i++) {
                    s.ways[i] = ways[i].clone();
                }
                s.costs = costs.clone();
            }
            return s;
        }
    }

    private State now = new State();
    private State image;
    private String tape = "";
    private int[] fault = {-1, -1};

    PlainModel() {
        for (int[] row : now.ways) {
            Arrays.fill(row, 1);
        }
        image = now.copy(true);
    }

    // ---- I.

    private static boolean in(int n, int least, int most) {
        return least <= n && n <= most;
    }

    private boolean someone(int one) {
        return in(one, 0, now.people.size() - 1);
    }

    private int room(Person p, int standard) {
        int room = standard - p.dent;
        return room < 1 ? 1 : room;
    }

    private boolean over(Person p, int kind, int standard) {
        return p.drops[kind] > now.brims[kind] * room(p, standard);
    }

    private void step() {
        now.steps.add(now.copy(false));
        if (now.steps.size() > 30) {
            now.steps.remove(0);
        }
    }

    private Text law() {
        return now.law == -1 ? null : now.texts.get(now.law);
    }

    private Case caseOf(int one, int kind) {
        Person p = now.people.get(one);
        return new Case(now.day, one, p, room(p, now.standard), kind, p.drops[kind]);
    }

    private static int bound(long n, int most) {
        return (int) Math.min(most, Math.max(0, n));
    }

    private static int dries(Text law, Case c) {
        return law == null || law.dries == null ? c.person.stuff == 1 ? 3 : 1 : bound(law.dries.of(c), 99);
    }

    private static int errs(Text law, Case c) {
        return law == null || law.errs == null ? 1 : bound(law.errs.of(c), 10);
    }

    private int fine(Text law, Case c) {
        return law == null || law.fine == null
            ? Math.max(0, c.drops - now.brims[c.kind] * c.room) : bound(law.fine.of(c), 9999);
    }

    int one(int stuff, int dent, int coins) {
        if (!in(stuff, 0, 2) || !in(dent, 0, 9) || !in(coins, 0, 9999) || now.people.size() == 6) {
            return -1;
        }
        now.people.add(new Person(stuff, dent, coins, new int[4]));
        return now.people.size() - 1;
    }

    boolean brim(int kind, int thimbles) {
        if (in(kind, 0, 2) && in(thimbles, 0, 9)) {
            now.brims[kind] = thimbles;
            return true;
        }
        return false;
    }

    boolean standard(int drops) {
        if (!in(drops, 1, 99)) {
            return false;
        }
        now.standard = drops;
        now.steps.forEach(s -> s.standard = drops);
        return true;
    }

    private boolean done(int one, int kind, int d, boolean step) {
        if (!someone(one) || !in(kind, 0, 3) || !in(d, 1, 99)) {
            return false;
        }
        if (step) {
            step();
        }
        int[] drops = now.people.get(one).drops;
        drops[kind] = Math.min(999, drops[kind] + d);
        return true;
    }

    int deed(int one, int kind, int drops) {
        return kind != 3 && done(one, kind, drops, true) ? now.people.get(one).drops[kind] : -1;
    }

    int weep(int one, int drops) {
        return done(one, 3, drops, true) ? now.people.get(one).drops[3] : -1;
    }

    private boolean washed(int one, int kind, int t, boolean step) {
        if (!someone(one) || !in(kind, 0, 2)) {
            return false;
        }
        int[] drops = now.people.get(one).drops;
        if (t <= 0 || drops[kind] < t || drops[3] < t) {
            return false;
        }
        if (step) {
            step();
        }
        drops = now.people.get(one).drops;
        drops[kind] -= t;
        drops[3] -= t;
        return true;
    }

    int wash(int one, int kind, int t) {
        return washed(one, kind, t, true) ? now.people.get(one).drops[kind] : -1;
    }

    private int poured(int one, int kind, boolean step) {
        if (!someone(one) || !in(kind, 0, 2)) {
            return -2;
        }
        if (step) {
            step();
        }
        Person p = now.people.get(one);
        Case c = caseOf(one, kind);
        int draw = now.x % 10;
        now.x = (int) ((now.x * 389L + 269L) % 30493L);
        boolean told = over(p, kind, now.standard);
        if (draw < errs(law(), c)) {
            told = !told;
        }
        if (!told) {
            return -1;
        }
        int coins = Math.min(p.coins, fine(law(), c));
        p.drops[kind] = 0;
        now.people.set(one, new Person(p.stuff, p.dent, p.coins - coins, p.drops));
        now.book.add(new Fine(now.day, one, kind, coins));
        if (now.book.size() > 30) {
            now.book.remove(0);
        }
        return coins;
    }

    int pour(int one, int kind) {
        return poured(one, kind, true);
    }

    private boolean bent(int one, boolean step) {
        if (!someone(one) || now.people.get(one).dent == 9) {
            return false;
        }
        if (step) {
            step();
        }
        Person p = now.people.get(one);
        now.people.set(one, new Person(p.stuff, p.dent + 1, p.coins, p.drops));
        return true;
    }

    int bend(int one) {
        return bent(one, true) ? room(now.people.get(one), now.standard) : -1;
    }

    int shrink(int d) {
        if (!in(d, 1, 98) || now.standard - d < 1) {
            return -1;
        }
        step();
        now.standard -= d;
        return now.standard;
    }

    private boolean passed(boolean step) {
        if (now.day == 9999) {
            return false;
        }
        if (step) {
            step();
        }
        for (int one = 0; one < now.people.size(); one++) {
            for (int kind = 0; kind < 4; kind++) {
                int less = dries(law(), caseOf(one, kind));
                int[] drops = now.people.get(one).drops;
                drops[kind] = Math.max(0, drops[kind] - less);
            }
        }
        now.day++;
        return true;
    }

    int day(int n) {
        if (!in(n, 1, 60) || now.day + n > 9999) {
            return -1;
        }
        for (int i = 0; i < n; i++) {
            passed(true);
        }
        return now.day;
    }

    int centuries(int seed, int n) {
        if (!in(seed, 0, 9999) || !in(n, 1, 40)) {
            return -1;
        }
        step();
        now.x = seed * 2 + 157;
        for (int i = 0; i < n; i++) {
            int x = now.x;
            now.x = (x * 389 + 269) % 30493;
            int what = x % 7;
            if (what == 6) {
                passed(false);
            } else if (!now.people.isEmpty()) {
                int one = x % now.people.size();
                int kind = x % 3;
                if (what < 2) {
                    done(one, kind, 1 + x % 30, false);
                } else if (what == 2) {
                    done(one, 3, 1 + x % 20, false);
                } else if (what == 3) {
                    washed(one, kind, x % 5, false);
                } else if (what == 4) {
                    poured(one, kind, false);
                } else if (x % 4 == 0) {
                    bent(one, false);
                }
            }
        }
        return now.day;
    }

    int undo() {
        if (now.steps.isEmpty()) {
            return -1;
        }
        State was = now.steps.remove(now.steps.size() - 1);
        for (int i = was.people.size(); i < now.people.size(); i++) {
            was.people.add(now.people.get(i));
        }
        now.people = was.people;
        now.standard = was.standard;
        now.day = was.day;
        now.x = was.x;
        now.book = was.book;
        return now.steps.size();
    }

    // ---- II.

    int feed(int... words) {
        if (tape.length() + 20 > 300) {
            return -1;
        }
        StringBuilder more = new StringBuilder(tape);
        for (int w : words) {
            for (int i = 3; i >= 0; i--) {
                more.append((char) (w >>> 8 * i & 255));
            }
        }
        tape = more.toString();
        return tape.length();
    }

    int end(int n) {
        if (!in(n, 0, tape.length())) {
            return -1;
        }
        tape = tape.substring(0, n);
        return n;
    }

    int text() {
        if (now.texts.size() == 4) {
            return -1;
        }
        String read = tape;
        tape = "";
        try {
            now.texts.add(new Parser(read).text());
            fault = new int[] {0, -1};
            return now.texts.size() - 1;
        } catch (FaultFound f) {
            fault = new int[] {f.what, f.place};
            return -1;
        }
    }

    int fault(int what) {
        return in(what, 0, 1) ? fault[what] : -1;
    }

    boolean by(int text) {
        if (!in(text, -1, now.texts.size() - 1)) {
            return false;
        }
        now.law = text;
        return true;
    }

    int played(int text) {
        if (!in(text, 0, now.texts.size() - 1)) {
            return -2;
        }
        List<Clause> clauses = now.texts.get(text).clauses;
        for (Clause c : clauses) {
            if (!can(c.word, c.numbers)) {
                return clauses.indexOf(c);
            }
        }
        return -1;
    }

    private boolean can(String word, int[] n) {
        switch (word) {
            case "one": return one(n[0], n[1], n[2]) >= 0;
            case "brim": return brim(n[1], n[0]);
            case "standard": return standard(n[0]);
            case "do": return deed(n[2], n[1], n[0]) >= 0;
            case "weep": return weep(n[1], n[0]) >= 0;
            case "wash": return wash(n[2], n[1], n[0]) >= 0;
            case "pour": return pour(n[0], n[1]) != -2;
            case "bend": return bend(n[0]) >= 0;
            case "shrink": return shrink(n[0]) >= 0;
            case "day":
                for (int i = 0; i < n[0]; i++) {
                    if (!passed(true)) {
                        return false;
                    }
                }
                return true;
            default: return true;
        }
    }

    private final class Parser {
        final List<String> tokens = new ArrayList<>();
        final List<Integer> places = new ArrayList<>();
        int at = 0;
        int open = 0;
        String law = "";

        Parser(String read) {
            int i = 0;
            while (i < read.length()) {
                char c = read.charAt(i);
                int to = i + 1;
                if (c == ' ' || c == '\n') {
                    i++;
                    continue;
                }
                String like = Character.toString(c).matches("[a-zA-Z]") ? "[a-zA-Z]"
                    : Character.toString(c).matches("[0-9]") ? "[0-9]" : null;
                while (like != null && to < read.length() && read.substring(to, to + 1).matches(like)) {
                    to++;
                }
                if (read.startsWith("<=", i) || read.startsWith(">=", i)) {
                    to = i + 2;
                }
                tokens.add(read.substring(i, to));
                places.add(i);
                i = to;
            }
            tokens.add("the end");
            places.add(read.length());
        }

        String peek() {
            return tokens.get(at);
        }

        FaultFound bad(int what) {
            return new FaultFound(what, places.get(at));
        }

        boolean maybe(String token) {
            if (peek().equals(token)) {
                at++;
                return true;
            }
            return false;
        }

        void must(String token) {
            if (!maybe(token)) {
                throw bad(1);
            }
        }

        int number(int least, int most) {
            if (!peek().matches("[0-9]+")) {
                throw bad(1);
            }
            String digits = peek().replaceFirst("^0+(?=.)", "");
            if (digits.length() > 4 || !in(Integer.parseInt(digits), least, most)) {
                throw bad(2);
            }
            at++;
            return Integer.parseInt(digits);
        }

        Text text() {
            Text text = new Text();
            while (!peek().equals("the end")) {
                String word = peek();
                if (!List.of("dries", "errs", "fine", "one", "brim", "standard", "do", "weep", "wash", "pour",
                    "bend", "shrink", "day").contains(word)) {
                    throw bad(1);
                }
                boolean isLaw = List.of("dries", "errs", "fine").contains(word);
                if (isLaw && text.clauses.stream().anyMatch(c -> c.word.equals(word))) {
                    throw bad(4);
                }
                if (text.clauses.size() == 24) {
                    throw bad(6);
                }
                at++;
                text.clauses.add(new Clause(word, isLaw ? new int[0] : order(word)));
                if (isLaw) {
                    law = word;
                    Law sum = sum();
                    text.dries = word.equals("dries") ? sum : text.dries;
                    text.errs = word.equals("errs") ? sum : text.errs;
                    text.fine = word.equals("fine") ? sum : text.fine;
                }
                must(";");
            }
            return text;
        }

        int[] order(String word) {
            // What stands in a clause behind its word: a word to be there, or "number least most".
            String shape = switch (word) {
                case "one" -> "0..2 dent 0..9 coins 0..9999";
                case "brim" -> "0..9 of 0..2";
                case "do", "wash" -> "1..99 of 0..2 by 0..5";
                case "weep" -> "1..99 by 0..5";
                case "pour" -> "0..5 of 0..2";
                case "bend" -> "0..5";
                case "day" -> "1..60";
                default -> "1..99";
            };
            int[] numbers = new int[3];
            int count = 0;
            for (String part : shape.split(" ")) {
                String[] ends = part.split("\\.\\.");
                if (ends.length == 1) {
                    must(part);
                } else {
                    numbers[count++] = number(Integer.parseInt(ends[0]), Integer.parseInt(ends[1]));
                }
            }
            return numbers;
        }

        long cut(long n) {
            return Math.max(-1000000, Math.min(1000000, n));
        }

        Law sum() {
            Law left = product();
            while (true) {
                Law a = left;
                if (maybe("+")) {
                    Law b = product();
                    left = c -> cut(a.of(c) + b.of(c));
                } else if (maybe("-")) {
                    Law b = product();
                    left = c -> cut(a.of(c) - b.of(c));
                } else {
                    return left;
                }
            }
        }

        Law product() {
            Law left = single();
            while (true) {
                Law a = left;
                if (maybe("*")) {
                    Law b = single();
                    left = c -> cut(a.of(c) * b.of(c));
                } else if (maybe("/")) {
                    Law b = single();
                    left = c -> b.of(c) == 0 ? 0 : cut(a.of(c) / b.of(c));
                } else {
                    return left;
                }
            }
        }

        void opened() {
            if (open == 8) {
                throw bad(3);
            }
            open++;
            at++;
        }

        Law single() {
            String word = peek();
            ToLongFunction<Case> name = name(word);
            if (word.matches("[0-9]+")) {
                int n = number(0, 9999);
                return c -> n;
            }
            if (name != null) {
                if (law.equals("dries") && (word.equals("coins") || word.equals("tears"))) {
                    throw bad(5);
                }
                at++;
                return name::applyAsLong;
            }
            if (!List.of("(", "-", "above", "brims", "if").contains(word)) {
                throw bad(1);
            }
            opened();
            Law made = nested(word);
            open--;
            return made;
        }

        Law nested(String word) {
            if (word.equals("(")) {
                Law inner = sum();
                must(")");
                return inner;
            }
            if (word.equals("if")) {
                Law when = either();
                must("then");
                Law yes = sum();
                must("else");
                Law no = sum();
                must("end");
                return c -> when.of(c) == 1 ? yes.of(c) : no.of(c);
            }
            Law inner = single();
            if (word.equals("-")) {
                return c -> -inner.of(c);
            }
            if (word.equals("brims")) {
                return c -> inner.of(c) == 0 ? now.brims[0] : inner.of(c) == 1 ? now.brims[1]
                    : inner.of(c) == 2 ? now.brims[2] : 0;
            }
            must("by");
            Law second = single();
            return c -> cut(Math.max(0, inner.of(c) - second.of(c)));
        }

        ToLongFunction<Case> name(String word) {
            return switch (word) {
                case "day" -> Case::day;
                case "who" -> Case::who;
                case "stuff" -> c -> c.person.stuff;
                case "dent" -> c -> c.person.dent;
                case "room" -> Case::room;
                case "kind" -> Case::kind;
                case "drops" -> Case::drops;
                case "coins" -> c -> c.person.coins;
                case "tears" -> c -> c.person.drops[3];
                default -> null;
            };
        }

        Law either() {
            Law left = both();
            while (maybe("or")) {
                Law a = left;
                Law b = both();
                left = c -> Math.max(a.of(c), b.of(c));
            }
            return left;
        }

        Law both() {
            Law left = ask();
            while (maybe("and")) {
                Law a = left;
                Law b = ask();
                left = c -> Math.min(a.of(c), b.of(c));
            }
            return left;
        }

        Law ask() {
            if (peek().equals("not")) {
                opened();
                Law inner = ask();
                open--;
                return c -> 1 - inner.of(c);
            }
            Law a = sum();
            String sign = peek();
            IntPredicate holds = switch (sign) {
                case "<" -> n -> n < 0;
                case "<=" -> n -> n <= 0;
                case ">" -> n -> n > 0;
                case ">=" -> n -> n >= 0;
                case "=" -> n -> n == 0;
                case "#" -> n -> n != 0;
                default -> throw bad(1);
            };
            at++;
            Law b = sum();
            return c -> holds.test(Long.compare(a.of(c), b.of(c))) ? 1 : 0;
        }
    }

    // ---- what is

    int of(int one, int what) {
        if (!someone(one) || !in(what, 0, 4)) {
            return -1;
        }
        Person p = now.people.get(one);
        int set = 0;
        for (int kind = 0; kind < 3; kind++) {
            set += over(p, kind, now.standard) ? 1 << kind : 0;
        }
        return new int[] {p.stuff, p.dent, p.coins, room(p, now.standard), set}[what];
    }

    int drops(int one, int kind, int what) {
        if (!someone(one) || !in(kind, 0, 3) || !in(what, 0, kind == 3 ? 1 : 3)) {
            return -1;
        }
        Case c = caseOf(one, kind);
        return what == 0 ? c.drops : what == 1 ? dries(law(), c) : what == 2 ? errs(law(), c) : fine(law(), c);
    }

    int is(int what) {
        return in(what, 0, 5)
            ? new int[] {now.day, now.standard, now.x, now.brims[0], now.brims[1], now.brims[2]}[what] : -2;
    }

    int book(int i, int what) {
        if (i == -1) {
            return now.book.size();
        }
        if (!in(i, 0, now.book.size() - 1) || !in(what, 0, 3)) {
            return -2;
        }
        Fine f = now.book.get(i);
        return new int[] {f.day, f.who, f.kind, f.coins}[what];
    }

    // ---- III.

    int foretold(int n, int one, int kind) {
        if (!in(n, 1, 60) || !someone(one) || !in(kind, 0, 3)) {
            return -1;
        }
        State was = now;
        now = now.copy(true);
        for (int i = 0; i < n; i++) {
            passed(false);
        }
        int drops = now.people.get(one).drops[kind];
        now = was;
        return drops;
    }

    int firstBrim(int one, int kind, int d) {
        if (!someone(one) || !in(kind, 0, 2) || !in(d, 1, 99)) {
            return -1;
        }
        State was = now;
        now = now.copy(true);
        int found = -1;
        for (int days = 0; days <= 60 && found < 0; days++) {
            done(one, kind, d, false);
            if (over(now.people.get(one), kind, now.standard)) {
                found = days;
            } else if (!passed(false)) {
                break;
            }
        }
        now = was;
        return found;
    }

    private static int told(List<int[]> list, boolean may, int... row) {
        if (!may || list.size() == 8) {
            return -2;
        }
        list.add(row);
        return list.size();
    }

    int plan(int kind, int drops) {
        if (kind == -1) {
            now.deeds.clear();
            return 0;
        }
        return told(now.deeds, in(kind, 0, 2) && in(drops, 1, 99), kind, drops);
    }

    int within(int one) {
        if (!someone(one)) {
            return -1;
        }
        Person p = now.people.get(one);
        List<int[]> found = new ArrayList<>();
        for (int set = 0; set < 1 << now.deeds.size(); set++) {
            int[] more = new int[3];
            boolean[] of = new boolean[3];
            for (int i = 0; i < now.deeds.size(); i++) {
                if ((set & 1 << i) != 0) {
                    more[now.deeds.get(i)[0]] += now.deeds.get(i)[1];
                    of[now.deeds.get(i)[0]] = true;
                }
            }
            boolean may = true;
            for (int kind = 0; kind < 3; kind++) {
                may &= !of[kind] || p.drops[kind] + more[kind] <= now.brims[kind] * room(p, now.standard);
            }
            if (may) {
                found.add(new int[] {-Integer.bitCount(set), -more[0] - more[1] - more[2], set});
            }
        }
        return found.stream().min(byRow()).get()[2];
    }

    private static Comparator<int[]> byRow() {
        return (a, b) -> Arrays.compare(a, b);
    }

    /** Upper and lower one, by all the ways that n pourings can go, one at a time. */
    private long[] odds(int one, int kind, int n) {
        int errs = errs(law(), caseOf(one, kind));
        long sum = 0;
        for (int way = 0; way < 1 << n; way++) {
            int wrong = Integer.bitCount(way);
            if (wrong * 2 > n) {
                sum += Math.round(Math.pow(errs, wrong)) * Math.round(Math.pow(10 - errs, n - wrong));
            }
        }
        return lowest(sum, Math.round(Math.pow(10, n)));
    }

    private static long[] lowest(long upper, long lower) {
        long shared = java.math.BigInteger.valueOf(upper).gcd(java.math.BigInteger.valueOf(lower)).longValue();
        return new long[] {upper / shared, lower / shared};
    }

    long wrongly(int one, int kind, int n, boolean low) {
        if (!someone(one) || !in(kind, 0, 2) || !List.of(1, 3, 5, 7, 9).contains(n)) {
            return -1;
        }
        return odds(one, kind, n)[low ? 1 : 0];
    }

    int howOften(int one, int kind, int p) {
        if (!someone(one) || !in(kind, 0, 2) || !in(p, 0, 100)) {
            return -1;
        }
        for (int n : List.of(1, 3, 5, 7, 9)) {
            long[] odds = odds(one, kind, n);
            if (odds[0] * 100 <= odds[1] * p) {
                return n;
            }
        }
        return -1;
    }

    boolean way(int one, int other, int length) {
        if (!someone(one) || !someone(other) || one == other || !in(length, 1, 99)) {
            return false;
        }
        now.ways[one][other] = length;
        now.ways[other][one] = length;
        return true;
    }

    int round(int i) {
        int n = now.people.size();
        if (i != -1 && !in(i, 0, n - 2)) {
            return -2;
        }
        if (n < 2) {
            return 0;
        }
        List<int[]> rounds = new ArrayList<>();
        int numbers = (int) Math.round(Math.pow(n, n - 1));
        for (int number = 0; number < numbers; number++) {
            int[] row = new int[n];
            int rest = number;
            Set<Integer> seen = new HashSet<>(Set.of(0));
            for (int k = n - 1; k >= 1; k--) {
                row[k] = rest % n;
                rest /= n;
                seen.add(row[k]);
            }
            if (seen.size() < n) {
                continue;
            }
            int length = now.ways[row[n - 1]][0];
            for (int k = 1; k < n; k++) {
                length += now.ways[k == 1 ? 0 : row[k - 1]][row[k]];
            }
            row[0] = length;
            rounds.add(row);
        }
        return rounds.stream().min(byRow()).get()[i + 1];
    }

    // ---- IV.

    int year(int drops, int thimbles) {
        if (drops == -1) {
            now.years.clear();
            return 0;
        }
        return told(now.years, in(drops, 0, 999) && in(thimbles, 0, 999), drops, thimbles);
    }

    private List<Integer> standards() {
        List<Integer> found = new ArrayList<>();
        for (int s = 1; s <= 99; s++) {
            int standard = s;
            if (now.years.stream().allMatch(y -> y[0] / standard == y[1])) {
                found.add(s);
            }
        }
        return found;
    }

    int shrunk(int what) {
        List<Integer> found = standards();
        switch (what) {
            case 0: return found.size();
            case 1: return found.isEmpty() ? -1 : found.get(0);
            case 2: return found.isEmpty() ? -1 : found.get(found.size() - 1);
            default: return -2;
        }
    }

    int wouldTell() {
        List<Integer> found = standards();
        int best = -1;
        long most = 0;
        for (int drops = 0; drops <= 999; drops++) {
            int d = drops;
            long unlike = found.stream().map(s -> d / s).distinct().count();
            if (unlike > most) {
                most = unlike;
                best = drops;
            }
        }
        return best;
    }

    int against(int one, int t, boolean tears) {
        if (!someone(one) || !in(t, 0, 999)) {
            return -1;
        }
        Person p = now.people.get(one);
        int[] best = {0, 0, 0};
        for (int set = 1; set < 8; set++) {
            int sum = 0;
            boolean may = true;
            for (int kind = 0; kind < 3; kind++) {
                if ((set >> kind & 1) == 1) {
                    may &= over(p, kind, now.standard);
                    sum += p.drops[kind] - now.brims[kind] * room(p, now.standard);
                }
            }
            int[] row = {-Integer.bitCount(set), sum, set};
            if (may && sum <= t && Arrays.compare(row, best) < 0) {
                best = row;
            }
        }
        return tears ? best[1] : best[2];
    }

    int even(int people, boolean side) {
        if (people < 1 || people >= 1 << now.people.size()) {
            return -1;
        }
        int lowest = Integer.numberOfTrailingZeros(people);
        int[] best = {9999, 0};
        for (int set = 0; set < 64; set++) {
            if ((set & ~people) == 0 && (set >> lowest & 1) == 1) {
                int in = 0;
                int out = 0;
                for (int one = 0; one < now.people.size(); one++) {
                    int room = room(now.people.get(one), now.standard);
                    in += (set >> one & 1) * room;
                    out += ((people & ~set) >> one & 1) * room;
                }
                int[] row = {Math.abs(in - out), set};
                best = Arrays.compare(row, best) < 0 ? row : best;
            }
        }
        return best[side ? 1 : 0];
    }

    int worst() {
        int[] best = {0, -1};
        for (int one = 0; one < now.people.size(); one++) {
            Person p = now.people.get(one);
            int sum = 0;
            for (int kind = 0; kind < 3; kind++) {
                sum -= Math.max(0, p.drops[kind] - now.brims[kind] * room(p, now.standard));
            }
            int[] row = {sum, one};
            best = Arrays.compare(row, best) < 0 ? row : best;
        }
        return best[1];
    }

    int moreDents(int one) {
        if (!someone(one)) {
            return -1;
        }
        Person p = now.people.get(one);
        for (int more = 9 - p.dent; more >= 0; more--) {
            Person bent = new Person(p.stuff, p.dent + more, p.coins, p.drops);
            if (!over(bent, 0, now.standard) && !over(bent, 1, now.standard) && !over(bent, 2, now.standard)) {
                return more;
            }
        }
        return -1;
    }

    int cases(int s) {
        if (!in(s, 1, 99)) {
            return -1;
        }
        int count = 0;
        for (Person p : now.people) {
            for (int kind = 0; kind < 3; kind++) {
                count += over(p, kind, now.standard) ^ over(p, kind, s) ? 1 : 0;
            }
        }
        return count;
    }

    int dried(int one, int kind, int drops) {
        if (one == -1) {
            now.dried.clear();
            return 0;
        }
        return told(now.dried, someone(one) && in(kind, 0, 3) && in(drops, 0, 99), one, kind, drops);
    }

    int whose() {
        int set = 0;
        for (Text text : now.texts) {
            if (now.dried.stream().allMatch(d -> dries(text, caseOf(d[0], d[1])) == d[2])) {
                set |= 1 << now.texts.indexOf(text);
            }
        }
        return set;
    }

    boolean costs(int kind, int costs) {
        if (!in(kind, 0, 2) || !in(costs, 1, 99)) {
            return false;
        }
        now.costs[kind] = costs;
        return true;
    }

    int game(int kind, boolean low) {
        if (!in(kind, 0, 2)) {
            return -1;
        }
        long all = (long) now.costs[0] * now.costs[1] * now.costs[2];
        long sum = 0;
        for (int cost : now.costs) {
            sum += all / cost;
        }
        return (int) lowest(all / now.costs[kind], sum)[low ? 1 : 0];
    }

    int fined(int one) {
        if (one != -1 && !someone(one)) {
            return -2;
        }
        return now.book.stream().filter(f -> one == -1 || f.who == one).mapToInt(Fine::coins).sum();
    }

    int fines(int kind) {
        return in(kind, 0, 2) ? (int) now.book.stream().filter(f -> f.kind == kind).count() : -2;
    }

    int sober(int kind) {
        if (!in(kind, 0, 3)) {
            return -1;
        }
        int set = 0;
        for (int one = 0; one < now.people.size(); one++) {
            set |= now.people.get(one).drops[kind] == 0 ? 1 << one : 0;
        }
        return set;
    }

    int heaviest() {
        int[] sums = new int[4];
        for (Person p : now.people) {
            for (int kind = 0; kind < 4; kind++) {
                sums[kind] += p.drops[kind];
            }
        }
        int most = Arrays.stream(sums).max().getAsInt();
        return most == sums[0] ? 0 : most == sums[1] ? 1 : most == sums[2] ? 2 : 3;
    }

    int image() {
        image = now.copy(true);
        return now.day;
    }

    int back() {
        now = image.copy(true);
        return now.day;
    }

    int about(int what) {
        return in(what, 0, 7) ? new int[] {now.people.size(), now.texts.size(), now.law, now.steps.size(),
            now.deeds.size(), now.years.size(), now.dried.size(), tape.length()}[what] : -2;
    }
}
