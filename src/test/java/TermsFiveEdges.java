import java.util.List;

/** Part V of "Terms": centuries, and an image to go back to. */
final class TermsFiveEdges {
    private static final int NONE = ThimbleLaw.NONE;
    private static final String PART = "Terms V";

    private final Edges e;

    private TermsFiveEdges(Edges e) {
        this.e = e;
    }

    static void all(Edges e) {
        TermsFiveEdges tests = new TermsFiveEdges(e);
        tests.seeds();
        tests.drops();
        tests.whatCannotBe();
        tests.oneStep();
        tests.image();
    }

    private void seeds() {
        e.test(PART, "CENTURIES by a SEED: X is SEED (0 .. 9999) * 2 + 157; n times (1 .. 40):", () -> {
            e.in("centuries(0, 1)", 0);
            e.in("is(2)", 356);
            e.in("centuries(9999, 1)", 0);
            e.in("is(2)", 3863);
            e.in("centuries(0, 40)", 6);
            e.in("is(2)", 5275);
            e.in("centuries(9999, 40)", 15);
            e.in("is(2)", 1081);
            e.refused(NONE, "centuries(-1, 1)", "centuries(10000, 1)", "centuries(0, 0)", "centuries(0, 41)",
                "centuries(0, -1)", "centuries(MIN, 1)", "centuries(0, MAX)");
        });
        e.test(PART, "x is X, X anew (as in a draw), of the one x mod how many there are, KIND x mod 3:", () -> {
            // The SEED 86 is 329: DONE 30 of KIND 2 by the one 329 mod 6, 329 mod 2, 329 mod 1.
            e.life(Edges.times(6, "one(0, 0, 0)"));
            e.then("centuries(86, 1)");
            e.in("drops(5, 2, 0)", 30);
            e.in("sober(2)", 31);
            e.in("is(2)", 6278);
            e.life("one(0, 0, 0)", "one(0, 0, 0)", "centuries(86, 1)");
            e.in("drops(1, 2, 0)", 30);
            e.life("one(0, 0, 0)", "centuries(86, 1)");
            e.out("drops(0, 2, 0)", 30);
            // X comes round: 15285 to the greatest, 30492; 9101, then 3370, to 0.
            e.life("centuries(7564, 1)");
            e.in("is(2)", 30492);
            e.then("centuries(7564, 2)");
            e.out("is(2)", 30373);
            e.then("centuries(4472, 2)");
            e.in("is(2)", 0);
            e.then("centuries(4472, 3)");
            e.out("is(2)", 269);
        });
    }

    private void drops() {
        e.test(PART, "x mod 7: 0, 1 DONE 1 and x mod 30; 2 WEPT 1 and x mod 20; 3 AGAINST x mod 5 tears;", () -> {
            // 329 (0) and 239 (1) are 29 mod 30; 25410 and 29730, behind a DAY each, are 0.
            e.life("one(0, 0, 0)");
            e.in("centuries(86, 1)", 0);
            e.in("drops(0, 2, 0)", 30);
            e.in("centuries(41, 1)", 0);
            e.in("drops(0, 2, 0)", 60);
            e.life("one(0, 0, 0)");
            e.in("centuries(4030, 2)", 1);
            e.in("drops(0, 0, 0)", 1);
            e.in("centuries(3722, 2)", 2);
            e.in("drops(0, 0, 0)", 1);
            // 219 is 19 mod 20, 29500 is 0.
            e.in("centuries(31, 1)", 2);
            e.in("drops(0, 3, 0)", 20);
            e.in("centuries(1762, 2)", 3);
            e.in("drops(0, 3, 0)", 20);
            // 339 is 4 mod 5, 171 is 1, 255 is 0: no tears can't be.
            e.life("one(0, 0, 0)", "deed(0, 0, 5)", "weep(0, 9)", "centuries(91, 1)");
            e.in("drops(0, 0, 0)", 1);
            e.in("drops(0, 3, 0)", 5);
            e.then("centuries(49, 1)");
            e.out("drops(0, 0, 0)", 1);
            e.out("drops(0, 3, 0)", 5);
            e.then("centuries(7, 1)");
            e.in("drops(0, 0, 0)", 0);
            e.in("drops(0, 3, 0)", 4);
            e.then("centuries(7, 1)");
            e.out("drops(0, 3, 0)", 4);
            // DONE stops at 999.
            e.life(Lives.join(List.of("one(0, 0, 0)"), Edges.times(10, "deed(0, 2, 99)")));
            e.then("centuries(86, 1)");
            e.out("drops(0, 2, 0)", 999);
        });
    }

    private void whatCannotBe() {
        e.test(PART, "4 POURED; 5 DENTED, if x mod 4 is 0 (each if it can be); 6 a DAY (if it can pass).", () -> {
            // 179 pours blows: X is 8914 then, which draws a 4.
            e.life("one(0, 0, 100)", "deed(0, 2, 25)", "centuries(11, 1)");
            e.in("of(0, 2)", 95);
            e.in("is(2)", 22106);
            // 6452, behind a DAY, is 5 mod 7 and 0 mod 4; 1006 is 2 mod 4.
            e.life("one(0, 8, 0)", "centuries(236, 2)");
            e.out("of(0, 1)", 8);
            e.then("centuries(243, 2)");
            e.in("of(0, 1)", 9);
            e.then("centuries(243, 2)");
            e.out("of(0, 1)", 9);
            // 167 is a DAY.
            e.life(Lives.atDay(9998));
            e.in("centuries(5, 1)", 9999);
            e.in("is(2)", 4246);
            e.out("centuries(5, 1)", 9999);
            e.out("is(2)", 4246);
        });
        e.test(PART, "Without PEOPLE all but DAYS are nothing.", () -> {
            e.in("centuries(86, 1)", 0);
            e.in("centuries(11, 1)", 0);
            // Nothing is poured: no second draw.
            e.in("is(2)", 8914);
            e.in("centuries(5, 1)", 1);
            e.out("heaviest()", 0);
            e.then("one(0, 0, 0)");
            e.out("of(0, 1)", 0);
            e.out("sober(2)", 1);
        });
    }

    private void oneStep() {
        e.test(PART, "It is one STEP: DAY.", () -> {
            e.life("one(0, 0, 100)", "deed(0, 0, 99)", "image()");
            e.in("centuries(0, 40)", e.answer("is(0)") + 6);
            e.in("about(3)", 2);
            e.in("undo()", 1);
            e.looksAs(List.of("one(0, 0, 100)", "deed(0, 0, 99)", "image()"));
            e.then(Edges.times(31, "centuries(0, 1)"));
            e.out("about(3)", 30);
        });
    }

    private void image() {
        e.test(PART, "AN IMAGE: all as it is, but the tape and the latest FAULT. BACK: all is so again.", () -> {
            List<String> kept = Lives.rich("image()");
            e.life(kept);
            long day = e.answer("is(0)");
            e.then("one(2, 2, 2)", "brim(0, 9)", "brim(1, 9)", "brim(2, 9)", "standard(9)", "way(0, 1, 99)",
                "costs(2, 50)", "plan(-1, 0)", "plan(1, 1)", "year(-1, 0)", "year(0, 0)", "dried(-1, 0, 0)",
                "dried(2, 2, 2)", "text()", "tape fine 1;", "text()", "by(2)", "deed(0, 0, 9)", "weep(0, 9)",
                "wash(0, 0, 1)", "pour(0, 0)", "bend(0)", "shrink(2)", "day(60)", "centuries(9999, 40)", "undo()");
            e.out("about(1)", 4);
            e.in("back()", day);
            e.in("about(1)", 2);
            // The tape and the latest FAULT are those of then: laid and made anew, all is as it was.
            e.then("tape dries (;", "text()", "tape dries 7;");
            e.looksAs(kept);
            e.life("tape dries 1;", "image()", "tape (", "text()", "tape 12", "back()");
            e.out("about(7)", 2);
            e.out("fault(0)", 1);
            e.out("fault(1)", 0);
            e.in("about(1)", 0);
        });
    }
}
