import java.util.List;

/** Promises 10 to 19: what is done by hand, by scripts and by centuries, and taken back. */
final class PromiseStepsEdges {
    private static final int NONE = ThimbleLaw.NONE;

    private final Edges e;

    private PromiseStepsEdges(Edges e) {
        this.e = e;
    }

    static void all(Edges e) {
        PromiseStepsEdges tests = new PromiseStepsEdges(e);
        tests.deedAndWeep();
        tests.wash();
        tests.pour();
        tests.bendAndShrink();
        tests.day();
        tests.played();
        tests.centuries();
        tests.undo();
    }

    private void deedAndWeep() {
        e.test("Promise 10", "NONE for others.", () -> {
            e.life(Lives.rich());
            e.others(NONE, "deed(%, 0, 1)", -1, 5, 6);
            e.others(NONE, "deed(0, %, 1)", -1, 3, 4);
            e.others(NONE, "deed(0, 0, %)", -1, 0, 100);
            long drops = e.answer("drops(4, 2, 0)");
            e.in("deed(4, 2, 1)", drops + 1);
            e.in("deed(4, 2, 99)", drops + 100);
        });
        e.test("Promise 11", "NONE for others.", () -> {
            e.life(Lives.rich());
            e.others(NONE, "weep(%, 1)", -1, 5, 6);
            e.others(NONE, "weep(0, %)", -1, 0, 100);
            long tears = e.answer("drops(4, 3, 0)");
            e.in("weep(4, 1)", tears + 1);
            e.in("weep(4, 99)", tears + 100);
        });
    }

    private void wash() {
        e.test("Promise 12", "NONE, if it can't be, and for others.", () -> {
            e.life(Lives.rich());
            long drops = e.answer("drops(0, 0, 0)");
            long tears = e.answer("drops(0, 3, 0)");
            e.refused(NONE, "wash(0, 0, " + (tears + 1) + ")");
            e.others(NONE, "wash(0, 0, %)", -1, 0, 1000);
            e.others(NONE, "wash(%, 0, 1)", -1, 5, 6);
            e.others(NONE, "wash(0, %, 1)", -1, 3, 4);
            e.in("wash(0, 0, 1)", drops - 1);
            e.in("wash(0, 0, " + (tears - 1) + ")", drops - tears);
            e.refused(NONE, "wash(0, 0, 1)");
            e.life("one(0, 0, 0)", "deed(0, 0, 8)");
            // As many as there are of both, above 99 too.
            e.then(Edges.times(10, "deed(0, 1, 99)"));
            e.then(Edges.times(11, "weep(0, 99)"));
            e.then("deed(0, 1, 99)");
            e.refused(NONE, "wash(0, 1, 1000)", "wash(0, 0, 9)");
            e.in("wash(0, 1, 999)", 0);
        });
    }

    private void pour() {
        e.test("Promise 13", "POURED: the fine; NONE: it is told not OVER.", () -> {
            e.life(Lives.by("errs 0;", "deed(0, 2, 20)"));
            e.out("pour(0, 2)", NONE);
            e.out("book(-1, 0)", 0);
            e.then("deed(0, 2, 1)");
            e.in("pour(0, 2)", 1);
            e.in("book(-1, 0)", 1);
            e.out("pour(0, 2)", NONE);
            e.life(Lives.by("errs 10;", "deed(0, 2, 20)"));
            e.in("pour(0, 2)", 0);
            e.in("book(-1, 0)", 1);
            e.then("deed(0, 2, 21)");
            e.out("pour(0, 2)", NONE);
        });
        e.test("Promise 13", "-2 for others.", () -> {
            e.life(Lives.rich());
            e.others(-2, "pour(%, 0)", -1, 5, 6);
            e.others(-2, "pour(0, %)", -1, 3, 4);
            long x = e.answer("is(2)");
            e.then("pour(4, 2)");
            e.in("is(2)", (x * 389 + 269) % 30493);
        });
    }

    private void bendAndShrink() {
        e.test("Promise 14", "NONE, if it can't be, and for others.", () -> {
            e.life(Lives.rich());
            e.others(NONE, "bend(%)", -1, 2, 5, 6);
            e.in("of(2, 1)", 9);
            long room = e.answer("of(4, 3)");
            long dent = e.answer("of(4, 1)");
            for (long more = 1; more <= 9 - dent; more++) {
                e.in("bend(4)", room - more);
            }
            e.refused(NONE, "bend(4)");
        });
        e.test("Promise 15", "NONE, if it can't be, and for others (d 1 .. 98).", () -> {
            e.life(Lives.rich("standard(50)"));
            e.others(NONE, "shrink(%)", -1, 0, 50, 51, 98, 99, 100);
            e.in("shrink(1)", 49);
            e.in("shrink(48)", 1);
            e.others(NONE, "shrink(%)", 0, 1, 98);
            e.life("standard(99)");
            e.refused(NONE, "shrink(99)");
            e.in("shrink(98)", 1);
        });
    }

    private void day() {
        e.test("Promise 16", "DAYS pass (1 .. 60): DAY.", () -> {
            e.life(Lives.rich());
            e.others(NONE, "day(%)", -1, 0, 61);
            long day = e.answer("is(0)");
            e.in("day(1)", day + 1);
            e.in("day(60)", day + 61);
            e.in("about(3)", 30);
        });
        e.test("Promise 16", "NONE for others, or beyond 9999 (nothing is done then).", () -> {
            e.life(Lives.atDay(9939, "deed(0, 0, 99)"));
            e.in("day(60)", 9999);
            e.in("drops(0, 0, 0)", 39);
            e.others(NONE, "day(%)", 0, 1, 60, 61);
            e.life(Lives.atDay(9940, "deed(0, 0, 99)"));
            e.refused(NONE, "day(60)");
            e.in("drops(0, 0, 0)", 99);
            e.in("day(59)", 9999);
            e.life(Lives.full());
            e.refused(NONE, "day(1)");
        });
    }

    private void played() {
        e.test("Promise 17", "PLAYED by a TEXT: NONE: all is done; else the number of the CLAUSE that can't be.", () -> {
            e.life("one(0, 7, 0)", "tape " + "bend 0;".repeat(2), "text()", "tape " + "dries 1;" + "weep 1 by 0;".repeat(22)
                + "bend 0;", "text()", "tape ", "text()");
            e.in("played(1)", NONE);
            e.in("drops(0, 3, 0)", 22);
            e.out("played(0)", 1);
            e.in("of(0, 1)", 9);
            e.refused(0, "played(0)");
            e.out("played(1)", 23);
            e.out("drops(0, 3, 0)", 44);
            e.asked("played(2)", NONE);
        });
        e.test("Promise 17", "-2 for others.", () -> {
            e.refused(-2, "played(0)");
            e.life(Lives.rich());
            e.others(-2, "played(%)", -1, 2, 4);
            e.in("played(1)", NONE);
            e.life(Lives.full());
            e.others(-2, "played(%)", -1, 4);
            e.asked("played(3)", NONE);
        });
    }

    private void centuries() {
        e.test("Promise 18", "NONE for others.", () -> {
            e.life(Lives.rich());
            e.others(NONE, "centuries(%, 1)", -1, 10000);
            e.others(NONE, "centuries(0, %)", -1, 0, 41);
            long day = e.answer("is(0)");
            // 157 and 20155 are no DAYS.
            e.in("centuries(0, 1)", day);
            e.in("centuries(9999, 1)", day);
            long steps = e.answer("about(3)");
            e.then("centuries(0, 40)");
            e.in("about(3)", steps + 1);
            e.life(Lives.full());
            e.in("centuries(9999, 40)", 9999);
            e.refused(NONE, "centuries(10000, 40)", "centuries(9999, 41)");
        });
    }

    private void undo() {
        e.test("Promise 19", "The latest STEP is taken back: how many can be yet.", () -> {
            e.life("one(0, 0, 0)", "deed(0, 0, 1)", "deed(0, 0, 2)", "day(2)");
            e.in("undo()", 3);
            e.in("is(0)", 1);
            e.in("undo()", 2);
            e.in("undo()", 1);
            e.in("undo()", 0);
            e.in("drops(0, 0, 0)", 0);
            e.refused(NONE, "undo()");
            e.life(Lives.full());
            e.out("undo()", 29);
            e.out("drops(1, 0, 0)", 0);
            e.in("deed(1, 0, 6)", 6);
            e.in("about(3)", 30);
            // Thirty STEPS and one: the first of them can't be taken back any more.
            e.life(Lives.join(List.of("one(0, 0, 0)", "bend(0)", "weep(0, 9)"), Edges.times(29, "deed(0, 0, 1)")));
            for (int left = 29; left >= 0; left--) {
                e.in("undo()", left);
            }
            e.out("drops(0, 3, 0)", 0);
            e.out("of(0, 1)", 1);
        });
        e.test("Promise 19", "NONE: there is none.", () -> {
            e.refused(NONE, "undo()");
            e.then("one(0, 0, 0)", "brim(0, 1)", "standard(9)", "tape ", "text()", "played(0)", "plan(0, 1)");
            e.refused(NONE, "undo()");
            e.then("deed(0, 0, 1)");
            e.in("undo()", 0);
            e.refused(NONE, "undo()");
            e.then("deed(0, 0, 1)", "back()");
            e.refused(NONE, "undo()");
        });
    }
}
