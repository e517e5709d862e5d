import java.util.List;

/** Part I of "Terms": people, drops, the standard, days, and what can be taken back. */
final class TermsOneEdges {
    private static final int NONE = ThimbleLaw.NONE;
    private static final String PART = "Terms I";

    private final Edges e;

    private TermsOneEdges(Edges e) {
        this.e = e;
    }

    static void all(Edges e) {
        TermsOneEdges tests = new TermsOneEdges(e);
        tests.ranges();
        tests.bounds();
        tests.room();
        tests.book();
        tests.doing();
        tests.pouring();
        tests.bending();
        tests.days();
        tests.steps();
    }

    private void ranges() {
        e.test(PART, "BRIMS of KINDS 0 .. 2: 0 .. 9 thimbles (told; at first 3, 2, 1).", () -> {
            e.in("is(3)", 3);
            e.in("is(4)", 2);
            e.in("is(5)", 1);
            e.in("brim(0, 0)", 1);
            e.in("is(3)", 0);
            e.in("brim(2, 9)", 1);
            e.in("is(5)", 9);
            e.refused(0, "brim(0, -1)", "brim(0, 10)", "brim(2, 10)", "brim(-1, 1)", "brim(3, 1)");
            e.life(Lives.rich());
            e.refused(0, "brim(1, -1)", "brim(1, 10)", "brim(1, MIN)", "brim(1, MAX)", "brim(MIN, 1)", "brim(MAX, 1)");
        });
        e.test(PART, "THE STANDARD: 1 .. 99 drops (told; at first 20).", () -> {
            e.in("is(1)", 20);
            e.in("standard(1)", 1);
            e.in("is(1)", 1);
            e.in("standard(99)", 1);
            e.in("is(1)", 99);
            e.refused(0, "standard(0)", "standard(100)");
            e.life(Lives.rich());
            e.refused(0, "standard(0)", "standard(100)", "standard(-1)", "standard(MIN)", "standard(MAX)");
        });
        e.test(PART, "PEOPLE 0 .. 5 (told one by one)", () -> {
            e.refused(NONE, "of(0, 0)", "deed(0, 0, 1)");
            for (int one = 0; one <= 5; one++) {
                e.in("one(0, 0, " + one + ")", one);
                e.in("of(" + one + ", 2)", one);
            }
            e.refused(NONE, "one(0, 0, 6)", "of(6, 2)", "of(-1, 2)", "deed(6, 0, 1)", "deed(-1, 0, 1)");
        });
        e.test(PART, "STUFF 0 silver, 1 wood, 2 horn", () -> {
            e.in("one(0, 0, 0)", 0);
            e.in("one(1, 0, 0)", 1);
            e.in("one(2, 0, 0)", 2);
            e.in("drops(0, 0, 1)", 1);
            e.in("drops(1, 0, 1)", 3);
            e.in("drops(2, 0, 1)", 1);
            e.refused(NONE, "one(-1, 0, 0)", "one(3, 0, 0)");
        });
        e.test(PART, "DENT 0 .. 9", () -> {
            e.in("one(0, 0, 0)", 0);
            e.in("one(0, 9, 0)", 1);
            e.in("of(0, 1)", 0);
            e.in("of(1, 1)", 9);
            e.refused(NONE, "one(0, -1, 0)", "one(0, 10, 0)");
        });
        e.test(PART, "COINS 0 .. 9999", () -> {
            e.in("one(0, 0, 0)", 0);
            e.in("one(0, 0, 9999)", 1);
            e.in("of(0, 2)", 0);
            e.in("of(1, 2)", 9999);
            e.refused(NONE, "one(0, 0, -1)", "one(0, 0, 10000)");
        });
    }

    private void bounds() {
        e.test(PART, "DROPS of each KIND 0 .. 999 (at first 0).", () -> {
            e.life("one(0, 0, 0)");
            for (int kind = 0; kind <= 3; kind++) {
                e.in("drops(0, " + kind + ", 0)", 0);
            }
            for (int kind = 0; kind <= 2; kind++) {
                e.then(Edges.times(10, "deed(0, " + kind + ", 99)"));
                e.in("deed(0, " + kind + ", 9)", 999);
                e.out("deed(0, " + kind + ", 1)", 999);
            }
            e.then(Edges.times(10, "weep(0, 99)"));
            e.in("weep(0, 9)", 999);
            e.out("weep(0, 1)", 999);
            e.life("one(0, 0, 0)", "deed(0, 0, 1)", "day(1)");
            e.in("drops(0, 0, 0)", 0);
            e.then("day(1)");
            e.out("drops(0, 0, 0)", 0);
        });
        e.test(PART, "DAY 0 .. 9999 (at first 0).", () -> {
            e.in("is(0)", 0);
            e.life(Lives.atDay(9998));
            e.in("is(0)", 9998);
            e.in("day(1)", 9999);
            e.refused(NONE, "day(1)", "day(60)");
        });
        e.test(PART, "X: at first 157.", () -> {
            e.in("is(2)", 157);
            e.then("one(0, 0, 0)", "deed(0, 0, 5)", "weep(0, 5)", "wash(0, 0, 1)", "bend(0)", "shrink(1)", "day(3)");
            e.in("is(2)", 157);
            e.then("pour(0, 0)");
            e.out("is(2)", 356);
            e.then("back()");
            e.in("is(2)", 157);
        });
        e.test(PART, "OVER in a KIND 0 .. 2: DROPS of it are more than BRIM times ROOM.", () -> {
            e.life("one(0, 0, 0)", "deed(0, 0, 60)", "deed(0, 1, 40)", "deed(0, 2, 20)");
            e.in("of(0, 4)", 0);
            e.then("deed(0, 0, 1)");
            e.out("of(0, 4)", 1);
            e.then("deed(0, 1, 1)");
            e.out("of(0, 4)", 3);
            e.then("deed(0, 2, 1)");
            e.out("of(0, 4)", 7);
            e.life("one(0, 0, 0)", "brim(2, 0)");
            e.in("of(0, 4)", 0);
            e.then("deed(0, 2, 1)");
            e.out("of(0, 4)", 4);
            e.life("one(0, 0, 0)", "brim(0, 0)", "brim(1, 0)", "brim(2, 0)", "weep(0, 99)");
            e.in("of(0, 4)", 0);
        });
    }

    private void room() {
        e.test(PART, "ROOM of one's thimble: THE STANDARD less DENT (1 at least).", () -> {
            e.life("one(0, 9, 0)", "standard(11)");
            e.in("of(0, 3)", 2);
            e.then("standard(10)");
            e.in("of(0, 3)", 1);
            e.then("standard(9)");
            e.out("of(0, 3)", 1);
            e.then("standard(1)");
            e.out("of(0, 3)", 1);
            e.then("brim(2, 1)", "deed(0, 2, 1)");
            e.in("of(0, 4)", 0);
            e.then("deed(0, 2, 1)");
            e.out("of(0, 4)", 4);
        });
    }

    private void book() {
        e.test(PART, "BOOK (the latest 30 fines): DAY, who, KIND, how much.", () -> {
            e.in("book(-1, 0)", 0);
            e.life(Lives.fines(29));
            e.in("book(-1, 0)", 29);
            e.life(Lives.fines(30));
            e.in("book(-1, 0)", 30);
            e.in("book(0, 3)", 1);
            e.in("book(29, 3)", 30);
            e.then("deed(0, 2, 51)", "day(1)", "deed(0, 2, 1)");
            e.in("pour(0, 2)", 31);
            e.out("book(-1, 0)", 30);
            e.out("book(0, 3)", 2);
            e.out("book(29, 3)", 31);
            e.in("book(29, 0)", 1);
            e.in("book(29, 1)", 0);
            e.in("book(29, 2)", 2);
            e.refused(-2, "book(30, 3)");
        });
    }

    private void doing() {
        e.test(PART, "DONE: d (1 .. 99) DROPS of a KIND 0 .. 2 more (999 at most).", () -> {
            e.life("one(0, 0, 0)");
            e.in("deed(0, 0, 1)", 1);
            e.in("deed(0, 2, 99)", 99);
            e.refused(NONE, "deed(0, 0, 0)", "deed(0, 0, 100)", "deed(0, -1, 1)", "deed(0, 3, 1)");
            e.then(Edges.times(9, "deed(0, 2, 99)"));
            e.in("deed(0, 2, 8)", 998);
            e.in("deed(0, 2, 1)", 999);
            e.out("deed(0, 2, 1)", 999);
            e.out("deed(0, 2, 99)", 999);
        });
        e.test(PART, "WEPT: d DROPS of tears more.", () -> {
            e.life("one(0, 0, 0)");
            e.in("weep(0, 1)", 1);
            e.in("weep(0, 99)", 100);
            e.refused(NONE, "weep(0, 0)", "weep(0, 100)");
            e.then(Edges.times(9, "weep(0, 99)"));
            e.in("weep(0, 8)", 999);
            e.out("weep(0, 99)", 999);
        });
        e.test(PART, "AGAINST: t (1 at least, no more than one has of tears, nor of a KIND 0 .. 2) tears wash away as "
            + "many DROPS of that KIND: both are less by t.", () -> {
            e.life("one(0, 0, 0)", "deed(0, 1, 9)", "weep(0, 5)");
            e.refused(NONE, "wash(0, 1, 0)", "wash(0, 1, -1)", "wash(0, 1, 6)");
            e.in("wash(0, 1, 1)", 8);
            e.in("drops(0, 3, 0)", 4);
            e.in("wash(0, 1, 4)", 4);
            e.in("drops(0, 3, 0)", 0);
            e.refused(NONE, "wash(0, 1, 1)");
            e.then("weep(0, 9)");
            e.refused(NONE, "wash(0, 1, 5)", "wash(0, 0, 1)", "wash(0, 3, 1)", "wash(0, -1, 1)");
            e.in("wash(0, 1, 4)", 0);
            e.in("drops(0, 3, 0)", 5);
        });
    }

    private void pouring() {
        e.test(PART, "POURED: one, a KIND 0 .. 2: a draw by 10 (X mod 10, X being (X * 389 + 269) mod 30493 then)", () -> {
            e.life("one(0, 0, 0)");
            e.in("pour(0, 0)", NONE);
            // 157 * 389 + 269 is 61342: twice 30493 and 356.
            e.in("is(2)", 356);
            e.refused(-2, "pour(0, -1)", "pour(0, 3)", "pour(1, 0)", "pour(-1, 0)");
            // The greatest X, then round to 30373; 30492 draws a 2.
            e.life("centuries(7564, 1)", "one(0, 0, 0)", "tape errs 2;", "text()", "by(0)");
            e.in("is(2)", 30492);
            e.in("pour(0, 0)", NONE);
            e.out("is(2)", 30373);
            e.life("centuries(7564, 1)", "one(0, 0, 0)", "tape errs 3;", "text()", "by(0)");
            e.out("pour(0, 0)", 0);
            // The least X: 3370 comes round to 0, which draws a 0 and goes on to 269.
            e.life("centuries(4472, 2)", "one(0, 0, 0)");
            e.in("is(2)", 0);
            e.in("pour(0, 0)", 0);
            e.out("is(2)", 269);
        });
        e.test(PART, "below errs: the funnel errs: it is told OVER, if it isn't, and else not", () -> {
            // The first draw is 7: it is not below 7, but below 8.
            e.life(Lives.by("errs 7;"));
            e.in("pour(0, 0)", NONE);
            e.life(Lives.by("errs 8;"));
            e.out("pour(0, 0)", 0);
            e.life(Lives.by("errs 7;", "deed(0, 2, 21)"));
            e.in("pour(0, 2)", 1);
            e.life(Lives.by("errs 8;", "deed(0, 2, 21)"));
            e.out("pour(0, 2)", NONE);
            e.in("drops(0, 2, 0)", 21);
        });
        e.test(PART, "a fine by fine, COINS at most: COINS are less, DROPS of the KIND are 0, written down.", () -> {
            String[] over = {"deed(0, 2, 50)", "deed(0, 1, 7)"};
            e.life(Lives.by("errs 0;fine 100;", over));
            e.in("pour(0, 2)", 100);
            e.in("of(0, 2)", 0);
            e.in("drops(0, 2, 0)", 0);
            e.in("drops(0, 1, 0)", 7);
            e.in("book(0, 3)", 100);
            e.life(Lives.by("errs 0;fine 99;", over));
            e.in("pour(0, 2)", 99);
            e.in("of(0, 2)", 1);
            e.life(Lives.by("errs 0;fine 101;", over));
            e.out("pour(0, 2)", 100);
            e.out("book(0, 3)", 100);
            e.out("of(0, 2)", 0);
            e.then("deed(0, 2, 50)");
            e.out("pour(0, 2)", 0);
            e.out("book(-1, 0)", 2);
            e.out("book(1, 3)", 0);
            e.out("drops(0, 2, 0)", 0);
        });
    }

    private void bending() {
        e.test(PART, "DENTED: DENT is one more (9 at most: else it can't be).", () -> {
            e.life("one(0, 8, 0)");
            e.in("bend(0)", 11);
            e.in("of(0, 1)", 9);
            e.refused(NONE, "bend(0)");
            e.in("of(0, 1)", 9);
        });
        e.test(PART, "SHRINKS: THE STANDARD is less by d (1 at least must stay).", () -> {
            e.refused(NONE, "shrink(0)", "shrink(20)", "shrink(21)", "shrink(98)");
            e.in("shrink(1)", 19);
            e.in("shrink(18)", 1);
            e.refused(NONE, "shrink(1)");
            e.life("standard(99)");
            e.refused(NONE, "shrink(99)");
            e.in("shrink(98)", 1);
        });
    }

    private void days() {
        e.test(PART, "A DAY: by PEOPLE, by KINDS (tears too), as all is then: DROPS are less by dries (0 at least).", () -> {
            e.life("one(1, 0, 0)", "one(0, 0, 0)", "deed(0, 0, 4)", "deed(0, 1, 3)", "deed(0, 2, 2)", "weep(0, 5)",
                "weep(1, 1)", "day(1)");
            e.in("drops(0, 0, 0)", 1);
            e.in("drops(0, 1, 0)", 0);
            e.out("drops(0, 2, 0)", 0);
            e.in("drops(0, 3, 0)", 2);
            e.in("drops(1, 3, 0)", 0);
            e.out("drops(1, 0, 0)", 0);
            // DAY and DROPS are as they are ahead of that DAY's drying.
            e.life(Lives.by("dries day*10+drops/10;", "deed(0, 0, 99)", "day(1)"));
            e.in("drops(0, 0, 0)", 90);
            e.then("day(1)");
            e.in("drops(0, 0, 0)", 71);
        });
        e.test(PART, "DAY is one more (at 9999 none can pass).", () -> {
            e.life(Lives.atDay(9997));
            e.in("day(1)", 9998);
            e.in("day(1)", 9999);
            e.refused(NONE, "day(1)");
            e.life(Lives.atDay(9998));
            e.refused(NONE, "day(2)");
            e.in("day(1)", 9999);
        });
    }

    private void steps() {
        e.test(PART, "STEPS: DONE, WEPT, AGAINST, POURED, DENTED, SHRINKS, a DAY (each), CENTURIES (see V): the latest 30 "
            + "can be taken back, the latest first", () -> {
            e.life("one(0, 0, 100)");
            stepsOfEachKind();
            e.life("one(0, 0, 100)");
            e.then(Edges.times(29, "deed(0, 0, 1)"));
            e.in("about(3)", 29);
            e.then("deed(0, 0, 1)");
            e.in("about(3)", 30);
            e.then("deed(0, 0, 1)");
            e.out("about(3)", 30);
            for (int left = 29; left >= 0; left--) {
                e.in("undo()", left);
                e.in("drops(0, 0, 0)", left + 1);
            }
            e.refused(NONE, "undo()");
            e.in("drops(0, 0, 0)", 1);
        });
        e.test(PART, "(DROPS, DENTS, COINS, THE STANDARD, DAY, X, BOOK are as ahead of it;", () -> {
            List<String> ahead = Lives.rich("deed(2, 2, 99)", "weep(2, 9)");
            e.life(ahead);
            long steps = e.answer("about(3)");
            for (String step : List.of("deed(2, 2, 99)", "weep(2, 9)", "wash(2, 2, 9)", "pour(2, 2)", "bend(4)", "shrink(7)",
                "day(1)", "centuries(99, 40)")) {
                e.life(ahead);
                e.then(step);
                e.in("about(3)", steps + 1);
                e.in("undo()", steps);
                e.looksAs(ahead);
            }
            // A full BOOK: the fine that went out of it for another is there again.
            e.life(Lives.fines(30));
            e.then("deed(0, 2, 99)");
            e.in("pour(0, 2)", 79);
            e.in("book(0, 3)", 2);
            e.then("undo()");
            e.out("book(-1, 0)", 30);
            e.out("book(0, 3)", 1);
            e.out("book(29, 3)", 30);
            e.out("drops(0, 2, 0)", 99);
        });
        e.test(PART, "PEOPLE told since are as told; BRIMS stay; THE STANDARD told since is as told: it is so in all of "
            + "these).", () -> {
            e.life("one(0, 0, 100)", "deed(0, 0, 5)", "shrink(2)", "one(1, 3, 7)", "brim(1, 8)", "deed(1, 1, 9)",
                "bend(1)");
            e.in("undo()", 3);
            e.in("undo()", 2);
            e.in("undo()", 1);
            e.in("is(1)", 20);
            e.in("undo()", 0);
            e.out("about(0)", 2);
            e.out("of(1, 0)", 1);
            e.out("of(1, 1)", 3);
            e.out("of(1, 2)", 7);
            e.out("drops(1, 1, 0)", 0);
            e.out("is(4)", 8);
            e.in("drops(0, 0, 0)", 0);
            e.life("one(0, 0, 0)", "shrink(2)", "deed(0, 0, 5)", "standard(50)", "shrink(9)");
            e.in("undo()", 2);
            e.in("is(1)", 50);
            e.in("undo()", 1);
            e.out("is(1)", 50);
            e.in("undo()", 0);
            e.out("is(1)", 50);
        });
    }

    private void stepsOfEachKind() {
        int count = 0;
        for (String step : List.of("deed(0, 0, 5)", "weep(0, 5)", "wash(0, 0, 1)", "pour(0, 0)", "bend(0)", "shrink(1)",
            "day(1)", "centuries(0, 40)")) {
            e.then(step);
            count++;
            e.in("about(3)", count);
        }
        e.then("day(3)");
        e.in("about(3)", count + 3);
        e.then("brim(0, 5)", "standard(30)", "one(0, 0, 0)");
        e.out("about(3)", count + 3);
    }
}
