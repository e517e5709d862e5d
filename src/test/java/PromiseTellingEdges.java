import java.util.List;

/** Promises 1 to 9: a new object, telling, the tape and its TEXTS. */
final class PromiseTellingEdges {
    private static final int NONE = ThimbleLaw.NONE;

    private final Edges e;

    private PromiseTellingEdges(Edges e) {
        this.e = e;
    }

    static void all(Edges e) {
        PromiseTellingEdges tests = new PromiseTellingEdges(e);
        tests.newObject();
        tests.one();
        tests.brimAndStandard();
        tests.feed();
        tests.end();
        tests.text();
        tests.fault();
        tests.by();
    }

    private void newObject() {
        e.test("Promise 1", "Nobody; THE IMAGE is this.", () -> {
            e.in("about(0)", 0);
            e.refused(NONE, "of(0, 0)", "deed(0, 0, 1)", "weep(0, 1)", "wash(0, 0, 1)", "bend(0)", "drops(0, 0, 0)");
            e.refused(-2, "pour(0, 0)", "played(0)", "fined(0)", "book(0, 0)");
            e.asked("back()", 0);
            e.life("one(0, 0, 9)", "brim(0, 9)", "standard(50)", "tape dries 2;", "text()", "by(0)", "one(1, 1, 1)",
                "way(0, 1, 9)", "costs(0, 9)", "plan(0, 9)", "year(9, 9)", "dried(0, 0, 9)", "deed(0, 0, 9)", "pour(0, 0)",
                "bend(0)", "shrink(1)", "centuries(7, 40)", "day(3)");
            e.out("back()", 0);
            // The latest FAULT alone is none of the IMAGE: of two new ones with a TEXT read, they are alike.
            e.looksAs(List.of("tape dries 2;", "text()", "back()"));
            e.out("about(0)", 0);
            e.out("about(3)", 0);
            e.out("is(2)", 157);
        });
    }

    private void one() {
        e.test("Promise 2", "NONE for others, or if there are 6.", () -> {
            e.life(Lives.rich());
            e.others(NONE, "one(%, 0, 0)", -1, 3);
            e.others(NONE, "one(0, %, 0)", -1, 10);
            e.others(NONE, "one(0, 0, %)", -1, 10000);
            e.in("about(0)", 5);
            e.in("one(2, 9, 9999)", 5);
            e.refused(NONE, "one(0, 0, 0)", "one(2, 9, 9999)");
            e.in("about(0)", 6);
            e.life(Lives.full());
            e.refused(NONE, "one(0, 0, 0)");
        });
    }

    private void brimAndStandard() {
        e.test("Promise 3", "False for others.", () -> {
            e.life(Lives.rich());
            e.others(0, "brim(%, 5)", -1, 3);
            e.others(0, "brim(0, %)", -1, 10);
            e.others(0, "brim(2, %)", -1, 10);
            e.in("brim(0, 0)", 1);
            e.in("brim(2, 9)", 1);
            e.in("is(3)", 0);
            e.in("is(5)", 9);
        });
        e.test("Promise 4", "False for others.", () -> {
            e.life(Lives.rich());
            e.others(0, "standard(%)", -1, 0, 100);
            e.in("standard(1)", 1);
            e.in("is(1)", 1);
            e.in("standard(99)", 1);
            e.in("is(1)", 99);
        });
    }

    private void feed() {
        e.test("Promise 5", "Twenty bytes come behind the tape, the highest of a first: how many it has.", () -> {
            // "dries 78901234567;9;", the fourth byte of a ahead of the first of b.
            e.in("feed(1685219685, 1931491128, 959459634, 859059510, 926628155)", 20);
            e.out("end(8)", 8);
            e.in("feed(1010580540, 0, 0, 0, -1)", 28);
            e.out("text()", NONE);
            e.out("fault(1)", 8);
            e.then("feed(1685219685, 1931491128, 959459634, 859059510, 926628155)", "end(8)", "feed(993737531, 0, 0, 0, 0)");
            e.in("end(9)", 9);
            e.in("text()", 0);
            e.then("one(0, 0, 0)", "by(0)");
            e.in("drops(0, 0, 1)", 78);
            // The last byte of e, all bits of it: the twentieth.
            e.then("feed(538976288, 538976288, 538976288, 538976288, 538976511)");
            e.out("text()", NONE);
            e.out("fault(1)", 19);
        });
        e.test("Promise 5", "NONE, and none come, if there would be more than 300.", () -> {
            for (int i = 1; i <= 15; i++) {
                e.in("feed(0, 0, 0, 0, 0)", 20 * i);
            }
            e.refused(NONE, "feed(0, 0, 0, 0, 0)", "feed(MIN, MAX, MIN, MAX, -1)");
            e.in("end(281)", 281);
            e.refused(NONE, "feed(0, 0, 0, 0, 0)");
            e.in("end(280)", 280);
            e.in("feed(0, 0, 0, 0, 0)", 300);
            e.life(Lives.full());
            e.refused(NONE, "feed(0, 0, 0, 0, 0)");
        });
    }

    private void end() {
        e.test("Promise 6", "NONE, and nothing is done, if it has not so many, or n is below 0.", () -> {
            e.asked("end(0)", 0);
            e.others(NONE, "end(%)", -1, 1);
            e.life(Lives.rich());
            e.asked("end(8)", 8);
            e.others(NONE, "end(%)", -1, 9, 300);
            e.in("end(7)", 7);
            e.refused(NONE, "end(8)");
            e.in("end(0)", 0);
            e.refused(NONE, "end(1)");
            e.life(Lives.full());
            e.asked("end(300)", 300);
            e.refused(NONE, "end(301)");
            e.in("end(299)", 299);
        });
    }

    private void text() {
        e.test("Promise 7", "The tape (empty then) is a TEXT: its number.", () -> {
            e.in("text()", 0);
            e.then("tape day 1;");
            e.in("about(7)", 6);
            e.in("text()", 1);
            e.in("about(7)", 0);
            e.in("text()", 2);
            e.out("about(1)", 3);
            e.then("one(0, 0, 0)");
            e.in("played(1)", NONE);
            e.in("is(0)", 1);
            e.asked("played(2)", NONE);
        });
        e.test("Promise 7", "NONE: it has a FAULT; or (the tape stays) there are 4.", () -> {
            e.life(Lives.rich("tape dries 7;errs;"));
            e.out("text()", NONE);
            e.out("about(7)", 0);
            // Nothing but the tape and the latest FAULT is another.
            e.then("tape ?", "text()");
            e.looksAs(Lives.rich("tape ?", "text()"));
            e.then("tape fine 1;");
            e.in("text()", 2);
            e.then("tape fine 2;");
            e.in("text()", 3);
            e.then("tape fine 3;");
            e.refused(NONE, "text()");
            e.out("about(7)", 7);
            e.then("tape ?");
            e.refused(NONE, "text()");
            e.out("about(7)", 1);
            e.out("fault(0)", 0);
            e.then("tape ");
            e.refused(NONE, "text()");
            // Back at two TEXTS the tape that stayed can be read.
            e.then("tape fine 4;", "back()");
            e.in("text()", 2);
            // What was read up to a FAULT is no part of the next TEXT.
            e.life("one(0, 0, 0)", "tape dries 9;day 1;day 2;weep 1 by 0;?", "text()", "tape day 1;errs 5;", "text()", "by(0)");
            e.in("drops(0, 0, 1)", 1);
            e.in("drops(0, 0, 2)", 5);
            e.in("played(0)", NONE);
            e.in("is(0)", 1);
            e.in("drops(0, 3, 0)", 0);
            String ones = "1+".repeat(140);
            e.life("one(0, 0, 0)", "tape fine " + ones + "?", "text()", "tape fine " + ones + "?", "text()",
                "tape fine " + ones + "1;", "text()", "by(0)");
            e.in("drops(0, 0, 3)", 141);
        });
    }

    private void fault() {
        e.test("Promise 8", "Of the latest text that was read: 0 its FAULT (0 without), 1 its place (NONE without).", () -> {
            e.then("tape dries 10000;", "text()");
            e.out("fault(0)", 2);
            e.out("fault(1)", 6);
            e.then("tape dries 9999;");
            e.out("fault(0)", 2);
            e.then("text()");
            e.in("fault(0)", 0);
            e.in("fault(1)", NONE);
            e.then("tape ?", "text()");
            e.out("fault(0)", 1);
            e.out("fault(1)", 0);
            e.then("tape ", "text()");
            e.in("fault(0)", 0);
            e.in("fault(1)", NONE);
        });
        e.test("Promise 8", "NONE for others, and ahead of any.", () -> {
            e.others(NONE, "fault(%)", -1, 0, 1, 2);
            e.then("tape dries 10000;");
            e.refused(NONE, "fault(0)", "fault(1)");
            e.then("text()");
            e.asked("fault(0)", 2);
            e.asked("fault(1)", 6);
            e.others(NONE, "fault(%)", -1, 2);
        });
    }

    private void by() {
        e.test("Promise 9", "THE TEXT (NONE: none): true.", () -> {
            e.asked("by(-1)", 1);
            e.refused(0, "by(0)");
            e.then("tape dries 5;", "text()", "one(0, 0, 0)");
            e.in("by(0)", 1);
            e.in("about(2)", 0);
            e.in("by(-1)", 1);
            e.in("about(2)", NONE);
            e.in("drops(0, 0, 1)", 1);
        });
        e.test("Promise 9", "False for others.", () -> {
            e.life(Lives.rich());
            e.in("by(1)", 1);
            e.others(0, "by(%)", -2, 2, 4);
            e.in("about(2)", 1);
            e.life(Lives.full());
            e.others(0, "by(%)", -2, 4);
            e.in("by(3)", 1);
        });
    }
}
