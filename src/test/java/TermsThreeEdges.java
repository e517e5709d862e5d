import java.util.List;

/** Part III of "Terms": what comes, a life within, pouring often, a round. */
final class TermsThreeEdges {
    private static final int NONE = ThimbleLaw.NONE;
    private static final String PART = "Terms III";

    private final Edges e;

    private TermsThreeEdges(Edges e) {
        this.e = e;
    }

    static void all(Edges e) {
        TermsThreeEdges tests = new TermsThreeEdges(e);
        tests.changingNothing();
        tests.foretold();
        tests.firstBrim();
        tests.deeds();
        tests.within();
        tests.pouringOften();
        tests.howOften();
        tests.ways();
        tests.rounds();
    }

    private void changingNothing() {
        e.test(PART, "All that follows changes nothing.", () -> {
            e.life(Lives.rich());
            e.asked("foretold(60, 0, 0)", e.answer("foretold(60, 0, 0)"));
            for (String call : List.of("foretold(1, 4, 3)", "firstBrim(0, 0, 1)", "firstBrim(3, 2, 99)", "within(0)",
                "within(4)", "wrongly(0, 0, 9, false)", "wrongly(1, 2, 1, true)", "howOften(0, 0, 0)",
                "howOften(0, 0, 100)", "round(-1)", "round(3)", "shrunk(0)", "shrunk(1)", "shrunk(2)", "wouldTell()",
                "against(0, 999, false)", "against(0, 0, true)", "even(31, false)", "even(31, true)", "worst()",
                "moreDents(0)", "moreDents(2)", "cases(1)", "cases(99)", "whose()", "game(0, false)", "game(2, true)",
                "fined(-1)", "fines(2)", "sober(3)", "heaviest()")) {
                e.asked(call, e.answer(call));
            }
            e.refused(NONE, "foretold(61, 0, 0)", "firstBrim(0, 3, 1)", "within(5)", "wrongly(0, 0, 10, true)",
                "howOften(0, 0, 101)", "against(5, 1, true)", "even(32, true)", "moreDents(5)", "cases(100)",
                "game(3, true)", "sober(4)");
            e.refused(-2, "round(4)", "shrunk(3)", "fined(5)", "fines(3)");
        });
    }

    private void foretold() {
        e.test(PART, "FORETOLD behind n DAYS (1 .. 60; those that can pass), nothing else being done: DROPS of one of a "
            + "KIND.", () -> {
            e.life("one(0, 0, 0)", "deed(0, 0, 99)", "weep(0, 61)");
            e.asked("foretold(1, 0, 0)", 98);
            e.asked("foretold(60, 0, 0)", 39);
            e.asked("foretold(60, 0, 3)", 1);
            e.asked("foretold(60, 0, 1)", 0);
            e.refused(NONE, "foretold(0, 0, 0)", "foretold(61, 0, 0)", "foretold(-1, 0, 0)");
            e.life(Lives.atDay(9998, "deed(0, 0, 9)"));
            e.asked("foretold(1, 0, 0)", 8);
            e.asked("foretold(2, 0, 0)", 8);
            e.then("day(1)");
            e.asked("foretold(60, 0, 0)", 8);
        });
    }

    private void firstBrim() {
        e.test(PART, "FIRST BRIM: doing d (1 .. 99) DROPS of a KIND 0 .. 2 ahead of each DAY from now on:", () -> {
            e.life("one(0, 0, 0)");
            // By a thimble of 20, a drop less each DAY: 2, 3, .. 20, then 21 behind the twentieth doing.
            e.asked("firstBrim(0, 2, 2)", 19);
            e.asked("firstBrim(0, 2, 1)", NONE);
            e.asked("firstBrim(0, 0, 99)", 0);
            e.refused(NONE, "firstBrim(0, 2, 0)", "firstBrim(0, 2, 100)", "firstBrim(0, 3, 99)", "firstBrim(0, -1, 99)");
            e.then("deed(0, 2, 50)");
            e.asked("firstBrim(0, 2, 1)", 0);
            e.refused(NONE, "firstBrim(0, 2, 0)", "firstBrim(0, 2, -1)");
        });
        e.test(PART, "in how many DAYS (0: now, behind the first; 60 at most) one is first OVER in it behind the doing; "
            + "none.", () -> {
            e.life(Lives.by("dries 0;"));
            e.asked("firstBrim(0, 2, 21)", 0);
            e.asked("firstBrim(0, 2, 20)", 1);
            // 61 doings are more than 60 drops; 62 would be needed for more than 61.
            e.asked("firstBrim(0, 0, 1)", 60);
            e.then("brim(0, 1)", "standard(61)");
            e.refused(NONE, "firstBrim(0, 0, 1)");
            e.then("deed(0, 0, 1)");
            e.asked("firstBrim(0, 0, 1)", 60);
            // Already OVER: now, whatever is done.
            e.then("deed(0, 0, 99)");
            e.asked("firstBrim(0, 0, 1)", 0);
            e.life(Lives.atDay(9998));
            e.asked("firstBrim(0, 2, 20)", 1);
            e.then("day(1)");
            e.asked("firstBrim(0, 2, 21)", 0);
            e.refused(NONE, "firstBrim(0, 2, 20)");
        });
    }

    private void deeds() {
        e.test(PART, "A LIFE WITHIN: DEEDS (8 at most; told: a KIND 0 .. 2, DROPS 1 .. 99):", () -> {
            e.life("one(0, 0, 0)");
            e.refused(-2, "plan(0, 0)", "plan(0, 100)", "plan(3, 1)", "plan(-2, 1)");
            e.in("plan(0, 1)", 1);
            e.in("plan(2, 99)", 2);
            for (int i = 3; i <= 8; i++) {
                e.in("plan(1, 1)", i);
            }
            e.refused(-2, "plan(0, 1)", "plan(0, 0)");
            e.in("about(4)", 8);
        });
        e.test(PART, "the most DEEDS (bits) that one may do now at once without being OVER in a KIND of these (as it is now, "
            + "with these DROPS more, 999 or not);", () -> {
            e.life("one(0, 0, 0)");
            e.asked("within(0)", 0);
            e.then("plan(2, 20)");
            e.asked("within(0)", 1);
            e.then("deed(0, 2, 1)");
            e.out("within(0)", 0);
            // OVER in another KIND than these: they may be done.
            e.then("deed(0, 2, 99)", "plan(0, 60)");
            e.asked("within(0)", 2);
            e.then("plan(-1, 0)", "plan(0, 61)");
            e.out("within(0)", 0);
            e.life("one(0, 0, 0)", "deed(0, 2, 19)", "plan(2, 1)");
            e.asked("within(0)", 1);
            e.then("deed(0, 2, 1)");
            e.out("within(0)", 0);
            // One more DEED is more than many more DROPS.
            e.life("one(0, 0, 0)", "plan(2, 20)", "plan(2, 1)", "plan(2, 2)");
            e.asked("within(0)", 6);
            // Eight of 99 by nine thimbles of 99: 792 and 99 are just that many.
            e.life("one(0, 0, 0)", "brim(0, 9)", "standard(99)", "deed(0, 0, 99)");
            e.then(Edges.times(8, "plan(0, 99)"));
            e.asked("within(0)", 255);
            e.then("deed(0, 0, 1)");
            e.out("within(0)", 127);
            // 999 at most is no way out: 950 and 50 more are OVER as well.
            e.life("one(0, 0, 0)", "brim(0, 9)", "standard(99)", "plan(0, 50)");
            e.then(Edges.times(10, "deed(0, 0, 95)"));
            e.out("within(0)", 0);
        });
    }

    private void within() {
        e.test(PART, "of like ones most DROPS, then the lowest set.", () -> {
            for (int kind = 0; kind <= 2; kind++) {
                String plan = "plan(" + kind + ", ";
                e.life("one(0, 0, 0)", "brim(" + kind + ", 1)", plan + "11)", plan + "12)", plan + "10)");
                e.asked("within(0)", 2);
            }
            e.then("plan(-1, 0)", "plan(2, 11)", "plan(2, 11)", "plan(2, 10)");
            e.out("within(0)", 1);
            e.then("plan(-1, 0)", "plan(2, 10)", "plan(2, 11)", "plan(2, 9)", "plan(2, 10)");
            // Two fit: 10 and 10, 11 and 9 have 20 drops each; 1 and 8 is 9, 2 and 4 is 6.
            e.asked("within(0)", 6);
        });
    }

    private void pouringOften() {
        e.test(PART, "POURING often: of one and a KIND: poured n (1, 3, .. 9) times, each erring by errs (as now):", () -> {
            e.life("one(0, 0, 0)");
            e.asked("wrongly(0, 0, 1, false)", 1);
            e.asked("wrongly(0, 0, 1, true)", 10);
            e.asked("wrongly(0, 0, 9, false)", 22273);
            e.asked("wrongly(0, 0, 9, true)", 25000000);
            e.refused(NONE, "wrongly(0, 0, 0, false)", "wrongly(0, 0, 2, false)", "wrongly(0, 0, 8, true)",
                "wrongly(0, 0, 10, true)", "wrongly(0, 0, 11, true)", "wrongly(0, 0, -1, false)");
            e.life(Lives.by("errs kind*3;"));
            e.asked("wrongly(0, 0, 1, false)", 0);
            e.asked("wrongly(0, 1, 1, false)", 3);
            e.asked("wrongly(0, 2, 1, false)", 3);
            e.asked("wrongly(0, 2, 1, true)", 5);
        });
        e.test(PART, "ODDS that most of them tell it wrongly, in lowest terms.", () -> {
            e.life(Lives.by("errs 0;"));
            e.asked("wrongly(0, 0, 9, false)", 0);
            e.asked("wrongly(0, 0, 9, true)", 1);
            e.life(Lives.by("errs 10;"));
            e.asked("wrongly(0, 0, 9, false)", 1);
            e.asked("wrongly(0, 0, 9, true)", 1);
            e.life(Lives.by("errs 5;"));
            e.out("wrongly(0, 0, 7, false)", 1);
            e.out("wrongly(0, 0, 7, true)", 2);
            // 28 of 1000 are 7 of 250.
            e.life(Lives.by("errs 1;"));
            e.out("wrongly(0, 0, 3, false)", 7);
            e.out("wrongly(0, 0, 3, true)", 250);
        });
    }

    private void howOften() {
        e.test(PART, "HOW OFTEN: the fewest such n, by which these ODDS are no more than p (0 .. 100) of 100; none.", () -> {
            e.life("one(0, 0, 0)");
            // By 1 of 10: 10, 2.8, 0.856, .. of 100.
            e.asked("howOften(0, 0, 100)", 1);
            e.asked("howOften(0, 0, 10)", 1);
            e.out("howOften(0, 0, 9)", 3);
            e.asked("howOften(0, 0, 3)", 3);
            e.out("howOften(0, 0, 2)", 5);
            e.asked("howOften(0, 0, 1)", 5);
            e.refused(NONE, "howOften(0, 0, 0)", "howOften(0, 0, -1)", "howOften(0, 0, 101)");
            e.life(Lives.by("errs 0;"));
            e.asked("howOften(0, 0, 0)", 1);
            e.refused(NONE, "howOften(0, 0, -1)");
            e.life(Lives.by("errs 5;"));
            e.asked("howOften(0, 0, 50)", 1);
            e.refused(NONE, "howOften(0, 0, 49)");
            e.life(Lives.by("errs 10;"));
            e.asked("howOften(0, 0, 100)", 1);
            e.refused(NONE, "howOften(0, 0, 99)", "howOften(0, 0, 101)");
            // By 2 of 10 nine times: 1.958144 of 100; seven times 3.3344, five 5.792.
            e.life(Lives.by("errs 2;"));
            e.asked("howOften(0, 0, 2)", 9);
            e.asked("howOften(0, 0, 4)", 7);
            e.refused(NONE, "howOften(0, 0, 1)");
        });
    }

    private void ways() {
        e.test(PART, "A ROUND: WAYS of two unlike PEOPLE's houses (told, 1 .. 99 both ways alike; at first 1):", () -> {
            e.life("one(0, 0, 0)", "one(0, 0, 0)", "one(0, 0, 0)");
            e.asked("round(-1)", 3);
            e.in("way(0, 1, 99)", 1);
            e.asked("round(-1)", 101);
            e.in("way(2, 1, 99)", 1);
            e.asked("round(-1)", 199);
            e.in("way(1, 0, 1)", 1);
            e.asked("round(-1)", 101);
            e.refused(0, "way(0, 1, 0)", "way(0, 1, 100)", "way(0, 0, 5)", "way(2, 2, 5)", "way(0, 3, 5)", "way(3, 0, 5)",
                "way(-1, 0, 5)", "way(0, -1, 5)", "way(0, 1, -1)");
        });
    }

    private void rounds() {
        e.test(PART, "the shortest way through all houses and back, from 0: of like ones by houses the lowest next, then the "
            + "next, ..:", () -> {
            e.life(Edges.times(6, "one(0, 0, 0)"));
            e.asked("round(-1)", 6);
            for (int i = 0; i <= 4; i++) {
                e.asked("round(" + i + ")", i + 1);
            }
            // Either way round is as long: 0 1 2 3 .., not 0 5 4 3 ..; a longer way from 1 to 2 is gone around.
            e.then("way(1, 2, 2)");
            e.out("round(-1)", 6);
            e.out("round(0)", 1);
            e.out("round(1)", 3);
            e.out("round(2)", 2);
            e.out("round(3)", 4);
            e.out("round(4)", 5);
            e.then("way(0, 1, 2)");
            e.out("round(0)", 2);
            e.out("round(1)", 3);
            e.out("round(2)", 1);
            // Six times 99: the longest that the shortest can be.
            e.life(Edges.times(6, "one(0, 0, 0)"));
            for (int one = 0; one < 6; one++) {
                for (int other = 0; other < one; other++) {
                    e.then("way(" + one + ", " + other + ", 99)");
                }
            }
            e.asked("round(-1)", 594);
            e.asked("round(0)", 1);
            e.asked("round(4)", 5);
        });
        e.test(PART, "how long, the i-th house behind the first (without or with one house: 0).", () -> {
            e.asked("round(-1)", 0);
            e.refused(-2, "round(0)", "round(-2)");
            e.life("one(0, 0, 0)");
            e.asked("round(-1)", 0);
            e.refused(-2, "round(0)");
            e.life("one(0, 0, 0)", "one(0, 0, 0)", "way(0, 1, 7)");
            e.asked("round(-1)", 14);
            e.asked("round(0)", 1);
            e.refused(-2, "round(1)");
        });
    }
}
