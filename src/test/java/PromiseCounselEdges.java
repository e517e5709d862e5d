/** Promises 32 to 43: the standard, tears, dents, cases, whose law, a game. */
final class PromiseCounselEdges {
    private static final int NONE = ThimbleLaw.NONE;

    private final Edges e;

    private PromiseCounselEdges(Edges e) {
        this.e = e;
    }

    static void all(Edges e) {
        PromiseCounselEdges tests = new PromiseCounselEdges(e);
        tests.year();
        tests.shrunk();
        tests.against();
        tests.even();
        tests.worstAndDents();
        tests.cases();
        tests.dried();
        tests.whose();
        tests.costs();
        tests.game();
    }

    private void year() {
        e.test("Promise 32", "A YEAR: how many there are (drops NONE: none any more).", () -> {
            e.asked("year(-1, 5)", 0);
            e.in("year(0, 0)", 1);
            e.in("year(99, 0)", 2);
            e.in("shrunk(0)", 0);
            e.in("year(-1, 5)", 0);
            e.in("about(5)", 0);
            e.in("shrunk(0)", 99);
            e.refused(-2, "year(-2, 5)");
            e.life(Lives.full());
            e.out("year(-1, 0)", 0);
            e.in("year(999, 999)", 1);
        });
        e.test("Promise 32", "-2 for others, or if there are 8.", () -> {
            e.life(Lives.rich());
            e.others(-2, "year(%, 0)", -2, 1000);
            e.others(-2, "year(0, %)", -1, 1000);
            for (int i = 3; i <= 8; i++) {
                e.in("year(999, 999)", i);
            }
            e.refused(-2, "year(0, 0)");
            e.life(Lives.full());
            e.refused(-2, "year(0, 0)", "year(1000, 0)", "year(0, 1000)");
        });
    }

    private void shrunk() {
        e.test("Promise 33", "SHRUNK: 0 how many, 1 the least, 2 the greatest (NONE without any).", () -> {
            e.life("year(50, 1)", "year(51, 1)");
            e.asked("shrunk(0)", 25);
            e.asked("shrunk(1)", 26);
            e.asked("shrunk(2)", 50);
            e.then("year(25, 1)");
            e.asked("shrunk(0)", 0);
            e.refused(NONE, "shrunk(1)", "shrunk(2)");
        });
        e.test("Promise 33", "-2 for others.", () -> {
            e.asked("shrunk(2)", 99);
            e.others(-2, "shrunk(%)", -1, 3);
            e.then("year(99, 0)");
            e.asked("shrunk(0)", 0);
            e.others(-2, "shrunk(%)", -1, 3);
        });
        e.test("Promise 34", "WOULD TELL. NONE: none.", () -> {
            e.life(Edges.times(7, "year(98, 0)"));
            e.asked("wouldTell()", 0);
            e.then("year(99, 0)");
            e.refused(NONE, "wouldTell()");
            e.then("year(-1, 0)");
            e.asked("wouldTell()", 961);
        });
    }

    private void against() {
        e.test("Promise 35", "NONE for others.", () -> {
            e.refused(NONE, "against(0, 0, false)");
            e.life("one(0, 0, 0)", "one(0, 0, 0)", "deed(1, 2, 21)");
            e.asked("against(1, 0, false)", 0);
            e.asked("against(1, 1, false)", 4);
            e.asked("against(1, 999, true)", 1);
            e.asked("against(0, 999, true)", 0);
            e.others(NONE, "against(%, 1, false)", -1, 2, 6);
            e.others(NONE, "against(1, %, true)", -1, 1000);
        });
    }

    private void even() {
        e.test("Promise 36", "NONE for others (no one, or not told).", () -> {
            e.others(NONE, "even(%, false)", 0, 1, -1);
            e.then("one(0, 0, 0)");
            e.asked("even(1, false)", 20);
            e.asked("even(1, true)", 1);
            e.others(NONE, "even(%, true)", 0, 2, 3, -1);
            e.life(Lives.full());
            e.asked("even(63, true)", e.answer("even(63, true)"));
            e.asked("even(32, true)", 32);
            e.others(NONE, "even(%, false)", 0, 64, 127, -1);
        });
    }

    private void worstAndDents() {
        e.test("Promise 37", "WORST. NONE: none.", () -> {
            e.refused(NONE, "worst()");
            e.life("one(0, 0, 0)", "one(0, 0, 0)", "deed(1, 2, 20)");
            e.refused(NONE, "worst()");
            e.then("deed(1, 2, 1)");
            e.asked("worst()", 1);
            e.then("deed(0, 2, 21)");
            e.asked("worst()", 0);
        });
        e.test("Promise 38", "MORE DENTS. NONE: none, and for others.", () -> {
            e.refused(NONE, "moreDents(0)");
            e.life("one(0, 0, 0)", "one(0, 9, 0)", "deed(0, 2, 20)");
            e.asked("moreDents(0)", 0);
            e.asked("moreDents(1)", 0);
            e.then("deed(0, 2, 1)");
            e.refused(NONE, "moreDents(0)");
            e.others(NONE, "moreDents(%)", -1, 2, 6);
        });
    }

    private void cases() {
        e.test("Promise 39", "CASES. NONE for others.", () -> {
            e.asked("cases(1)", 0);
            e.others(NONE, "cases(%)", -1, 0, 100);
            e.life("one(0, 0, 0)", "deed(0, 2, 21)", "deed(0, 1, 3)");
            e.asked("cases(1)", 1);
            e.asked("cases(99)", 1);
            e.others(NONE, "cases(%)", -1, 0, 100);
        });
    }

    private void dried() {
        e.test("Promise 40", "DRIED: how many there are (one NONE: none any more).", () -> {
            e.asked("dried(-1, 0, 0)", 0);
            e.then("one(0, 0, 0)", "tape dries 9;", "text()");
            e.in("dried(0, 0, 1)", 1);
            e.in("dried(0, 3, 9)", 2);
            e.in("whose()", 0);
            e.in("dried(-1, 0, 0)", 0);
            e.in("about(6)", 0);
            e.in("whose()", 1);
            e.refused(-2, "dried(-2, 0, 0)");
            e.life(Lives.full());
            e.out("dried(-1, 0, 0)", 0);
            e.in("dried(5, 3, 99)", 1);
        });
        e.test("Promise 40", "-2 for others, or if there are 8.", () -> {
            e.refused(-2, "dried(0, 0, 0)");
            e.life(Lives.rich());
            e.others(-2, "dried(%, 0, 0)", -2, 5, 6);
            e.others(-2, "dried(0, %, 0)", -1, 4);
            e.others(-2, "dried(0, 0, %)", -1, 100);
            for (int i = 3; i <= 8; i++) {
                e.in("dried(4, 3, 99)", i);
            }
            e.refused(-2, "dried(0, 0, 0)");
            e.life(Lives.full());
            e.refused(-2, "dried(0, 0, 0)", "dried(6, 0, 0)", "dried(0, 4, 0)", "dried(0, 0, 100)");
        });
    }

    private void whose() {
        e.test("Promise 41", "WHOSE LAW (bits).", () -> {
            e.asked("whose()", 0);
            e.life(Lives.full());
            // By dries 0 the last alone; the others say 1 of silver.
            e.asked("whose()", 8);
            e.then("dried(-1, 0, 0)");
            e.asked("whose()", 15);
            e.then("dried(1, 0, 3)");
            e.asked("whose()", 7);
            e.then("dried(1, 0, 4)");
            e.out("whose()", 0);
        });
    }

    private void costs() {
        e.test("Promise 42", "COSTS of a KIND 0 .. 2: true.", () -> {
            e.in("costs(0, 1)", 1);
            e.in("costs(2, 2)", 1);
            e.in("game(2, true)", 5);
            e.refused(0, "costs(-1, 1)", "costs(3, 1)");
        });
        e.test("Promise 42", "False for others.", () -> {
            e.life(Lives.rich());
            e.others(0, "costs(%, 1)", -1, 3);
            e.others(0, "costs(0, %)", -1, 0, 100);
            e.others(0, "costs(2, %)", -1, 0, 100);
            e.in("costs(0, 1)", 1);
            e.in("costs(2, 99)", 1);
        });
    }

    private void game() {
        e.test("Promise 43", "NONE for others.", () -> {
            e.life("costs(0, 97)", "costs(1, 98)", "costs(2, 99)");
            // 98 * 99, 97 * 99 and 97 * 98 are 28811 together, and share nothing with it.
            e.asked("game(0, false)", 9702);
            e.asked("game(1, false)", 9603);
            e.asked("game(2, false)", 9506);
            e.asked("game(2, true)", 28811);
            e.others(NONE, "game(%, false)", -1, 3);
            e.others(NONE, "game(%, true)", -1, 3);
        });
    }
}
