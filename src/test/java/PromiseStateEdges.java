import java.util.List;

/** Promises 20 to 23 and 44 to 50: what is, the book, an image, and how many there are. */
final class PromiseStateEdges {
    private static final int NONE = ThimbleLaw.NONE;

    private final Edges e;

    private PromiseStateEdges(Edges e) {
        this.e = e;
    }

    static void all(Edges e) {
        PromiseStateEdges tests = new PromiseStateEdges(e);
        tests.of();
        tests.drops();
        tests.is();
        tests.book();
        tests.byTheBook();
        tests.soberAndHeaviest();
        tests.image();
        tests.back();
        tests.about();
    }

    private void of() {
        e.test("Promise 20", "NONE for others.", () -> {
            e.refused(NONE, "of(0, 0)");
            e.life(Lives.rich());
            e.asked("of(2, 0)", 2);
            e.asked("of(2, 1)", 9);
            e.asked("of(2, 2)", 9999);
            e.asked("of(2, 3)", 18);
            e.asked("of(4, 4)", e.answer("of(4, 4)"));
            e.others(NONE, "of(%, 0)", -1, 5, 6);
            e.others(NONE, "of(0, %)", -1, 5);
            e.life(Lives.full());
            e.asked("of(5, 1)", 3);
            e.others(NONE, "of(%, 4)", -1, 6);
        });
    }

    private void drops() {
        e.test("Promise 21", "Of one and a KIND 0 .. 3: 0 DROPS, 1 dries now, 2 errs now (KINDS 0 .. 2), 3 fine now (0 .. 2; as "
            + "law says).", () -> {
            e.life(Lives.by("dries 5;errs 6;fine 9999;", "weep(0, 7)", "deed(0, 2, 8)"));
            e.asked("drops(0, 0, 0)", 0);
            e.asked("drops(0, 2, 0)", 8);
            e.asked("drops(0, 3, 0)", 7);
            e.asked("drops(0, 0, 1)", 5);
            e.asked("drops(0, 3, 1)", 5);
            e.asked("drops(0, 0, 2)", 6);
            e.asked("drops(0, 2, 2)", 6);
            // Of 100 COINS no more can be taken; the law says what it says.
            e.asked("drops(0, 0, 3)", 9999);
            e.asked("drops(0, 2, 3)", 9999);
            e.refused(NONE, "drops(0, 3, 2)", "drops(0, 3, 3)", "drops(0, 4, 0)", "drops(0, 4, 1)", "drops(0, -1, 0)",
                "drops(0, -1, 2)", "drops(0, 4, 3)");
        });
        e.test("Promise 21", "NONE for others.", () -> {
            e.refused(NONE, "drops(0, 0, 0)");
            e.life(Lives.rich());
            e.asked("drops(4, 3, 1)", 5);
            e.asked("drops(4, 2, 3)", 7);
            e.others(NONE, "drops(%, 0, 0)", -1, 5, 6);
            e.others(NONE, "drops(0, %, 0)", -1, 4);
            e.others(NONE, "drops(0, %, 2)", -1, 3);
            e.others(NONE, "drops(0, 0, %)", -1, 4);
            e.others(NONE, "drops(0, 3, %)", -1, 2, 3, 4);
        });
    }

    private void is() {
        e.test("Promise 22", "-2 for others.", () -> {
            e.asked("is(0)", 0);
            e.asked("is(5)", 1);
            e.others(-2, "is(%)", -1, 6);
            e.life(Lives.full());
            e.asked("is(0)", 9999);
            e.asked("is(5)", 1);
            e.others(-2, "is(%)", -1, 6);
        });
    }

    private void book() {
        e.test("Promise 23", "BOOK: how many (i NONE); the i-th, from the eldest on: 0 DAY, 1 who, 2 KIND, 3 how much.", () -> {
            e.asked("book(-1, 0)", 0);
            e.refused(-2, "book(0, 0)");
            e.life("one(0, 0, 0)", "one(0, 0, 9)", "tape errs 0;", "text()", "by(0)", "deed(1, 0, 99)", "pour(1, 0)", "day(60)",
                "deed(0, 2, 99)", "pour(0, 2)");
            e.asked("book(-1, 0)", 2);
            e.asked("book(0, 0)", 0);
            e.asked("book(0, 1)", 1);
            e.asked("book(0, 2)", 0);
            e.asked("book(0, 3)", 9);
            e.asked("book(1, 0)", 60);
            e.asked("book(1, 1)", 0);
            e.asked("book(1, 2)", 2);
            e.asked("book(1, 3)", 0);
            e.refused(-2, "book(2, 0)", "book(-2, 0)");
            // The last DAY, the most COINS, the last KIND.
            e.life(Lives.atDay(9999, "one(0, 0, 9999)", "tape errs 10;fine 9999;", "text()", "by(1)"));
            e.in("pour(1, 2)", 9999);
            e.asked("book(0, 0)", 9999);
            e.asked("book(0, 1)", 1);
            e.asked("book(0, 2)", 2);
            e.asked("book(0, 3)", 9999);
        });
        e.test("Promise 23", "-2 if there is none such, and for others.", () -> {
            e.life(Lives.full());
            e.asked("book(29, 3)", 79);
            e.asked("book(0, 0)", 0);
            e.others(-2, "book(%, 0)", -2, 30);
            e.others(-2, "book(0, %)", -1, 4);
            e.others(-2, "book(29, %)", -1, 4);
        });
    }

    private void byTheBook() {
        e.test("Promise 44", "-2 for others.", () -> {
            e.asked("fined(-1)", 0);
            e.others(-2, "fined(%)", -2, 0);
            e.life(Lives.full());
            e.asked("fined(0)", 2370);
            e.asked("fined(5)", 0);
            e.asked("fined(-1)", 2370);
            e.others(-2, "fined(%)", -2, 6);
        });
        e.test("Promise 45", "BY THE BOOK: how many of a KIND 0 .. 2.", () -> {
            e.asked("fines(0)", 0);
            e.asked("fines(2)", 0);
            e.life(Lives.full());
            e.asked("fines(0)", 0);
            e.asked("fines(2)", 30);
            e.refused(-2, "fines(3)", "fines(-1)");
        });
        e.test("Promise 45", "-2 for others.", () -> {
            e.life(Lives.fines(3));
            e.asked("fines(0)", 0);
            e.asked("fines(2)", 3);
            e.others(-2, "fines(%)", -1, 3);
            e.life(Lives.rich());
            e.others(-2, "fines(%)", -1, 3);
        });
    }

    private void soberAndHeaviest() {
        e.test("Promise 46", "SOBER (bits). NONE for others.", () -> {
            e.asked("sober(0)", 0);
            e.asked("sober(3)", 0);
            e.others(NONE, "sober(%)", -1, 4);
            e.life(Lives.full());
            e.asked("sober(2)", 63);
            e.asked("sober(3)", 61);
            e.others(NONE, "sober(%)", -1, 4);
        });
        e.test("Promise 47", "HEAVIEST.", () -> {
            e.asked("heaviest()", 0);
            e.life(Lives.full());
            e.asked("heaviest()", 3);
            e.then("deed(0, 1, 68)");
            e.asked("heaviest()", 3);
            e.then("deed(5, 1, 1)");
            e.out("heaviest()", 1);
        });
    }

    private void image() {
        e.test("Promise 48", "THE IMAGE is as all is now: DAY.", () -> {
            e.in("image()", 0);
            e.life(Lives.atDay(9999));
            e.in("image()", 9999);
            e.then("deed(0, 0, 5)");
            e.in("image()", 9999);
            e.then("deed(0, 0, 5)", "back()");
            e.out("drops(0, 0, 0)", 5);
            e.then("undo()", "image()", "back()");
            e.out("about(3)", 29);
        });
    }

    private void back() {
        e.test("Promise 49", "BACK to THE IMAGE (it stays): DAY.", () -> {
            // Ahead of any IMAGE: to what was at first.
            e.asked("back()", 0);
            e.life("one(0, 0, 0)", "day(9)");
            e.out("back()", 0);
            e.out("about(0)", 0);
            List<String> kept = Lives.full();
            e.life(kept);
            e.asked("back()", 9999);
            e.then("undo()", "undo()", "undo()", "undo()", "brim(0, 0)", "plan(-1, 0)", "year(-1, 0)", "dried(-1, 0, 0)");
            e.in("is(0)", 9998);
            e.in("back()", 9999);
            e.looksAs(kept);
            e.then("standard(1)", "by(-1)");
            e.in("back()", 9999);
            e.looksAs(kept);
        });
    }

    private void about() {
        e.test("Promise 50", "0 PEOPLE, 1 TEXTS, 2 THE TEXT (NONE), 3 STEPS that can be taken back, 4 DEEDS told, 5 YEARS, 6 "
            + "DRIED, 7 bytes of the tape.", () -> {
            int[] first = {0, 0, NONE, 0, 0, 0, 0, 0};
            int[] most = {6, 4, 3, 30, 8, 8, 8, 300};
            for (int what = 0; what <= 7; what++) {
                e.asked("about(" + what + ")", first[what]);
            }
            e.life(Lives.full());
            for (int what = 0; what <= 7; what++) {
                e.asked("about(" + what + ")", most[what]);
            }
            e.refused(NONE, "one(0, 0, 0)", "text()", "feed(0, 0, 0, 0, 0)");
            e.refused(-2, "plan(0, 1)", "year(0, 0)", "dried(0, 0, 0)");
            e.then("deed(0, 0, 1)", "plan(-1, 0)", "year(-1, 0)", "dried(-1, 0, 0)", "by(-1)", "end(0)");
            e.out("about(3)", 30);
            for (int what : new int[] {4, 5, 6, 7}) {
                e.in("about(" + what + ")", 0);
            }
            e.in("about(2)", NONE);
        });
        e.test("Promise 50", "-2 for others.", () -> {
            e.asked("about(0)", 0);
            e.asked("about(7)", 0);
            e.others(-2, "about(%)", -1, 8);
            e.life(Lives.rich());
            e.asked("about(7)", 8);
            e.others(-2, "about(%)", -1, 8);
        });
    }
}
