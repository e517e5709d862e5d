/** Promises 24 to 31: what comes, a life within, pouring often, a round. */
final class PromiseAheadEdges {
    private static final int NONE = ThimbleLaw.NONE;

    private final Edges e;

    private PromiseAheadEdges(Edges e) {
        this.e = e;
    }

    static void all(Edges e) {
        PromiseAheadEdges tests = new PromiseAheadEdges(e);
        tests.foretold();
        tests.firstBrim();
        tests.plan();
        tests.within();
        tests.wrongly();
        tests.howOften();
        tests.way();
        tests.round();
    }

    private void foretold() {
        e.test("Promise 24", "NONE for others.", () -> {
            e.refused(NONE, "foretold(1, 0, 0)");
            e.life(Lives.rich("deed(4, 0, 9)", "weep(4, 9)"));
            e.asked("foretold(1, 4, 0)", e.answer("drops(4, 0, 0)") - 2);
            e.asked("foretold(1, 4, 3)", e.answer("drops(4, 3, 0)") - 5);
            e.asked("foretold(60, 4, 3)", 0);
            e.others(NONE, "foretold(%, 0, 0)", -1, 0, 61);
            e.others(NONE, "foretold(1, %, 0)", -1, 5, 6);
            e.others(NONE, "foretold(1, 0, %)", -1, 4);
        });
    }

    private void firstBrim() {
        e.test("Promise 25", "FIRST BRIM. NONE: none, and for others.", () -> {
            e.refused(NONE, "firstBrim(0, 0, 1)");
            e.life("one(0, 0, 0)", "one(1, 0, 0)");
            // A drop less each DAY takes one that is done each DAY away, three of wood take three.
            e.asked("firstBrim(0, 2, 2)", 19);
            e.refused(NONE, "firstBrim(0, 2, 1)", "firstBrim(1, 2, 3)");
            e.asked("firstBrim(1, 2, 4)", 17);
            e.asked("firstBrim(1, 0, 99)", 0);
            e.others(NONE, "firstBrim(%, 2, 99)", -1, 2, 6);
            e.others(NONE, "firstBrim(0, %, 99)", -1, 3);
            e.others(NONE, "firstBrim(0, 2, %)", -1, 0, 100);
        });
    }

    private void plan() {
        e.test("Promise 26", "A DEED told: how many there are (kind NONE: none any more).", () -> {
            e.asked("plan(-1, 5)", 0);
            e.in("plan(0, 5)", 1);
            e.in("plan(2, 5)", 2);
            e.in("plan(-1, 5)", 0);
            e.in("about(4)", 0);
            e.in("plan(1, 1)", 1);
            e.refused(-2, "plan(-2, 5)");
            e.life(Lives.full());
            e.out("plan(-1, 0)", 0);
            e.in("within(0)", 0);
            e.in("plan(1, 99)", 1);
        });
        e.test("Promise 26", "-2 for others, or if there are 8.", () -> {
            e.life(Lives.rich());
            e.others(-2, "plan(%, 1)", -2, 3);
            e.others(-2, "plan(0, %)", -1, 0, 100);
            for (int i = 4; i <= 8; i++) {
                e.in("plan(2, 99)", i);
            }
            e.refused(-2, "plan(2, 99)");
            e.life(Lives.full());
            e.refused(-2, "plan(0, 1)", "plan(0, 100)", "plan(3, 1)");
        });
    }

    private void within() {
        e.test("Promise 27", "NONE for others.", () -> {
            e.refused(NONE, "within(0)");
            e.life(Lives.rich());
            e.others(NONE, "within(%)", -1, 5, 6);
            e.asked("within(4)", e.answer("within(4)"));
            e.life(Lives.full());
            // Eight of 9 in drink; two thimbles of 17: three of them.
            e.asked("within(5)", 7);
            e.others(NONE, "within(%)", -1, 6);
        });
    }

    private void wrongly() {
        e.test("Promise 28", "NONE for others.", () -> {
            e.refused(NONE, "wrongly(0, 0, 1, false)");
            e.life(Lives.rich());
            e.asked("wrongly(4, 2, 1, false)", 3);
            e.asked("wrongly(4, 2, 1, true)", 10);
            e.others(NONE, "wrongly(%, 0, 1, false)", -1, 5, 6);
            e.others(NONE, "wrongly(0, %, 1, true)", -1, 3);
            e.others(NONE, "wrongly(0, 0, %, false)", -1, 0, 2, 4, 6, 8, 10, 11);
            e.asked("wrongly(0, 0, 3, false)", 27);
            e.asked("wrongly(0, 0, 5, false)", 4077);
            e.asked("wrongly(0, 0, 7, false)", 31509);
            e.asked("wrongly(0, 0, 9, false)", 4940433);
            e.asked("wrongly(0, 0, 9, true)", 50000000);
        });
        e.test("Promise 28", "POURING often: the upper (low false), the lower one (low true).", () -> {
            e.life(Lives.by("errs 9;"));
            // What errs by 9 of 10 is right by 1 of 10: 22273 of 25000000 less than all.
            e.asked("wrongly(0, 0, 9, false)", 24977727);
            e.asked("wrongly(0, 0, 9, true)", 25000000);
            e.life(Lives.by("errs 11;"));
            e.out("wrongly(0, 0, 9, false)", 1);
            e.out("wrongly(0, 0, 9, true)", 1);
        });
    }

    private void howOften() {
        e.test("Promise 29", "NONE: none, and for others.", () -> {
            e.refused(NONE, "howOften(0, 0, 100)");
            e.life(Lives.rich());
            e.asked("howOften(4, 2, 100)", 1);
            e.asked("howOften(4, 2, 30)", 1);
            e.asked("howOften(4, 2, 29)", 3);
            e.asked("howOften(4, 2, 10)", 9);
            e.refused(NONE, "howOften(4, 2, 9)", "howOften(4, 2, 0)");
            e.others(NONE, "howOften(%, 0, 100)", -1, 5, 6);
            e.others(NONE, "howOften(0, %, 100)", -1, 3);
            e.others(NONE, "howOften(0, 0, %)", -1, 101);
        });
    }

    private void way() {
        e.test("Promise 30", "False for others (unlike ones).", () -> {
            e.refused(0, "way(0, 1, 1)");
            e.life("one(0, 0, 0)");
            e.refused(0, "way(0, 0, 1)", "way(0, 1, 1)", "way(1, 0, 1)");
            e.then("one(0, 0, 0)", "one(0, 0, 0)");
            e.in("way(0, 1, 1)", 1);
            e.in("way(2, 0, 99)", 1);
            e.others(0, "way(%, 1, 50)", -1, 1, 3, 6);
            e.others(0, "way(1, %, 50)", -1, 1, 3, 6);
            e.others(0, "way(0, 1, %)", -1, 0, 100);
            e.asked("round(-1)", 101);
            e.life(Lives.full());
            e.refused(0, "way(5, 6, 9)", "way(5, 5, 9)", "way(5, 4, 100)");
            e.in("way(5, 4, 9)", 1);
        });
    }

    private void round() {
        e.test("Promise 31", "A ROUND: how long (i NONE), the i-th house behind the first.", () -> {
            e.asked("round(-1)", 0);
            e.refused(-2, "round(0)");
            e.life(Lives.full("way(0, 1, 2)"));
            e.asked("round(-1)", 6);
            e.asked("round(0)", 2);
            e.asked("round(1)", 1);
            e.asked("round(4)", 5);
            e.refused(-2, "round(5)");
        });
        e.test("Promise 31", "-2 for others (i up to how many there are less two).", () -> {
            e.others(-2, "round(%)", -2, 0, 1);
            e.then("one(0, 0, 0)");
            e.others(-2, "round(%)", -2, 0, 1);
            e.then("one(0, 0, 0)");
            e.asked("round(0)", 1);
            e.others(-2, "round(%)", -2, 1);
            e.life(Lives.full());
            e.asked("round(4)", 5);
            e.others(-2, "round(%)", -2, 5, 6);
        });
    }
}
