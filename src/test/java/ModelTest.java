import java.util.Random;

/** Long runs of calls, drawn by fixed seeds, on the class and on PlainModel: each answer must be the same. */
final class ModelTest {
    private static final int CALLS = 512;
    private static final int METHODS = 50;

    private final Random random;
    private final ThimbleLaw x = new ThimbleLaw();
    private final PlainModel model = new PlainModel();
    private final StringBuilder calls = new StringBuilder();
    private boolean same = true;

    private ModelTest(long seed) {
        random = new Random(seed);
    }

    public static void main(String[] args) {
        int runs = args.length > 0 ? Integer.parseInt(args[0]) : 400;
        int from = args.length > 1 ? Integer.parseInt(args[1]) : 0;
        for (int seed = from; seed < from + runs; seed++) {
            ModelTest run = new ModelTest(seed);
            run.all(seed);
            if (!run.same) {
                System.out.println("seed " + seed + ":\n" + run.calls);
                System.exit(1);
            }
        }
        System.out.println("ModelTest: " + runs + " runs of " + CALLS + " calls answer alike");
    }

    private void all(int seed) {
        int people = random.nextInt(7);
        for (int i = 0; i < people; i++) {
            call(0);
        }
        if (seed % 8 == 7) {
            for (int i = 0; i < 166 && same; i++) {
                check("day(60)", x.day(60), model.day(60));
            }
            check("day", x.day(30), model.day(30));
        }
        // A run has calls that it likes, so that some go deep into one matter.
        int[] liked = new int[8];
        for (int i = 0; i < liked.length; i++) {
            liked[i] = random.nextInt(METHODS);
        }
        for (int i = 0; i < CALLS && same; i++) {
            int method = random.nextInt(3) == 0 ? liked[random.nextInt(liked.length)] : random.nextInt(METHODS);
            call(method);
        }
    }

    private void check(String call, long got, long want) {
        calls.append(call).append(" -> ").append(got);
        if (got != want) {
            same = false;
            calls.append(", but the model says ").append(want);
        }
        calls.append('\n');
    }

    private void check(String call, boolean got, boolean want) {
        check(call, got ? 1 : 0, want ? 1 : 0);
    }

    /** Mostly from least to most, now and then an edge, or something wild. */
    private int pick(int least, int most) {
        int how = random.nextInt(60);
        if (how == 0) {
            return least - 1;
        }
        if (how == 1) {
            return most + 1;
        }
        if (how == 2) {
            return random.nextInt();
        }
        if (how == 3) {
            return random.nextBoolean() ? Integer.MIN_VALUE : Integer.MAX_VALUE;
        }
        if (how < 10) {
            return random.nextBoolean() ? least : most;
        }
        return least + random.nextInt(most - least + 1);
    }

    private int who() {
        return pick(0, Math.max(0, model.about(0) - 1));
    }

    private void call(int method) {
        if (method < 10) {
            tell(method);
        } else if (method < 20) {
            step(method);
        } else if (method < 33) {
            ask(method);
        } else {
            askMore(method);
        }
    }

    private void tell(int method) {
        int a = pick(0, 2);
        int b = pick(0, 9);
        int c = pick(0, random.nextBoolean() ? 60 : 9999);
        switch (method) {
            case 0: check("one(" + a + ", " + b + ", " + c + ")", x.one(a, b, c), model.one(a, b, c)); break;
            case 1: check("brim(" + a + ", " + b + ")", x.brim(a, b), model.brim(a, b)); break;
            case 2:
                c = pick(1, random.nextBoolean() ? 20 : 99);
                check("standard(" + c + ")", x.standard(c), model.standard(c));
                break;
            case 3:
                int[] w = {random.nextInt(), random.nextInt(), random.nextInt(), random.nextInt(), random.nextInt()};
                check("feed", x.feed(w[0], w[1], w[2], w[3], w[4]), model.feed(w));
                break;
            case 4:
                c = pick(0, model.about(7));
                check("end(" + c + ")", x.end(c), model.end(c));
                break;
            case 5:
            case 6: readText(); break;
            case 7:
                c = pick(0, 1);
                check("fault(" + c + ")", x.fault(c), model.fault(c));
                break;
            case 8:
                c = pick(-1, model.about(1));
                check("by(" + c + ")", x.by(c), model.by(c));
                break;
            default:
                c = pick(0, 9999);
                int n = pick(1, 40);
                check("centuries(" + c + ", " + n + ")", x.centuries(c, n), model.centuries(c, n));
                break;
        }
    }

    private void readText() {
        TextMaker maker = new TextMaker(random);
        String text = maker.text();
        if (random.nextInt(3) == 0) {
            text = maker.spoiled(text);
        }
        calls.append("text: ").append(text).append('\n');
        Due.tape(x, text);
        model.end(0);
        for (int from = 0; from < text.length(); from += 20) {
            int[] words = new int[5];
            for (int i = 0; i < 20; i++) {
                int sign = from + i < text.length() ? text.charAt(from + i) : 0;
                words[i / 4] |= sign << 24 - i % 4 * 8;
            }
            model.feed(words);
        }
        model.end(text.length());
        check("about(7)", x.about(7), model.about(7));
        check("text()", x.text(), model.text());
        check("fault(0)", x.fault(0), model.fault(0));
        check("fault(1)", x.fault(1), model.fault(1));
    }

    private void step(int method) {
        int one = who();
        int kind = pick(0, 2);
        int n = pick(1, 99);
        switch (method) {
            case 10:
                check("deed(" + one + ", " + kind + ", " + n + ")", x.deed(one, kind, n), model.deed(one, kind, n));
                break;
            case 11: check("weep(" + one + ", " + n + ")", x.weep(one, n), model.weep(one, n)); break;
            case 12:
                n = pick(1, random.nextInt(4) == 0 ? 999 : 30);
                check("wash(" + one + ", " + kind + ", " + n + ")", x.wash(one, kind, n), model.wash(one, kind, n));
                break;
            case 13: check("pour(" + one + ", " + kind + ")", x.pour(one, kind), model.pour(one, kind)); break;
            case 14: check("bend(" + one + ")", x.bend(one), model.bend(one)); break;
            case 15:
                n = pick(1, random.nextInt(4) == 0 ? 98 : 4);
                check("shrink(" + n + ")", x.shrink(n), model.shrink(n));
                break;
            case 16:
                n = pick(1, random.nextInt(4) == 0 ? 60 : 4);
                check("day(" + n + ")", x.day(n), model.day(n));
                break;
            case 17:
                n = pick(0, Math.max(0, model.about(1) - 1));
                check("played(" + n + ")", x.played(n), model.played(n));
                break;
            default: check("undo()", x.undo(), model.undo()); break;
        }
    }

    private void ask(int method) {
        int one = who();
        int kind = pick(0, 2);
        int any = pick(0, 3);
        int n = pick(1, 60);
        switch (method) {
            case 20:
                n = pick(0, 4);
                check("of(" + one + ", " + n + ")", x.of(one, n), model.of(one, n));
                break;
            case 21:
            case 22:
                n = pick(0, 3);
                check("drops(" + one + ", " + any + ", " + n + ")", x.drops(one, any, n), model.drops(one, any, n));
                break;
            case 23:
                n = pick(0, 5);
                check("is(" + n + ")", x.is(n), model.is(n));
                break;
            case 24:
                n = pick(-1, 30);
                check("book(" + n + ", " + any + ")", x.book(n, any), model.book(n, any));
                break;
            case 25:
                check("foretold(" + n + ", " + one + ", " + any + ")",
                    x.foretold(n, one, any), model.foretold(n, one, any));
                break;
            case 26:
                n = pick(1, random.nextBoolean() ? 9 : 99);
                check("firstBrim(" + one + ", " + kind + ", " + n + ")",
                    x.firstBrim(one, kind, n), model.firstBrim(one, kind, n));
                break;
            case 27:
                kind = random.nextInt(12) == 0 ? -1 : kind;
                n = pick(1, random.nextBoolean() ? 20 : 99);
                check("plan(" + kind + ", " + n + ")", x.plan(kind, n), model.plan(kind, n));
                break;
            case 28: check("within(" + one + ")", x.within(one), model.within(one)); break;
            case 29:
                n = pick(0, 10);
                boolean low = random.nextBoolean();
                check("wrongly(" + one + ", " + kind + ", " + n + ", " + low + ")",
                    x.wrongly(one, kind, n, low), model.wrongly(one, kind, n, low));
                break;
            case 30:
                n = pick(0, random.nextBoolean() ? 10 : 100);
                check("howOften(" + one + ", " + kind + ", " + n + ")",
                    x.howOften(one, kind, n), model.howOften(one, kind, n));
                break;
            case 31:
                int other = who();
                n = pick(1, random.nextBoolean() ? 5 : 99);
                check("way(" + one + ", " + other + ", " + n + ")", x.way(one, other, n), model.way(one, other, n));
                break;
            default:
                n = pick(-1, 4);
                check("round(" + n + ")", x.round(n), model.round(n));
                break;
        }
    }

    private void askMore(int method) {
        int one = who();
        int kind = pick(0, 2);
        int any = pick(0, 3);
        int n = pick(0, random.nextBoolean() ? 30 : 999);
        boolean flag = random.nextBoolean();
        switch (method) {
            case 33:
                int drops = random.nextInt(5) == 0 ? -1 : n;
                int thimbles = random.nextInt(6) == 0 ? pick(0, 999) : n / (1 + random.nextInt(30));
                check("year(" + drops + ", " + thimbles + ")", x.year(drops, thimbles), model.year(drops, thimbles));
                break;
            case 34: check("shrunk(" + kind + ")", x.shrunk(kind), model.shrunk(kind)); break;
            case 35: check("wouldTell()", x.wouldTell(), model.wouldTell()); break;
            case 36:
                check("against(" + one + ", " + n + ", " + flag + ")",
                    x.against(one, n, flag), model.against(one, n, flag));
                break;
            case 37:
                n = pick(1, (1 << model.about(0)) + 1);
                check("even(" + n + ", " + flag + ")", x.even(n, flag), model.even(n, flag));
                break;
            case 38: check("worst()", x.worst(), model.worst()); break;
            case 39: check("moreDents(" + one + ")", x.moreDents(one), model.moreDents(one)); break;
            case 40:
                n = pick(1, random.nextBoolean() ? 20 : 99);
                check("cases(" + n + ")", x.cases(n), model.cases(n));
                break;
            case 41:
                one = random.nextInt(6) == 0 ? -1 : one;
                n = random.nextBoolean() ? model.drops(one, any, 1) : pick(0, 99);
                check("dried(" + one + ", " + any + ", " + n + ")", x.dried(one, any, n), model.dried(one, any, n));
                break;
            case 42: check("whose()", x.whose(), model.whose()); break;
            case 43:
                n = pick(1, 99);
                check("costs(" + kind + ", " + n + ")", x.costs(kind, n), model.costs(kind, n));
                break;
            case 44: check("game(" + kind + ", " + flag + ")", x.game(kind, flag), model.game(kind, flag)); break;
            case 45:
                one = random.nextInt(4) == 0 ? -1 : one;
                check("fined(" + one + ")", x.fined(one), model.fined(one));
                check("fines(" + kind + ")", x.fines(kind), model.fines(kind));
                break;
            case 46: check("sober(" + any + ")", x.sober(any), model.sober(any)); break;
            case 47: check("heaviest()", x.heaviest(), model.heaviest()); break;
            case 48:
                if (random.nextInt(3) == 0) {
                    check("image()", x.image(), model.image());
                } else if (random.nextInt(3) == 0) {
                    check("back()", x.back(), model.back());
                }
                break;
            default:
                n = pick(0, 7);
                check("about(" + n + ")", x.about(n), model.about(n));
                break;
        }
    }
}
