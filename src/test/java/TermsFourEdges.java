/** Part IV of "Terms": what is asked of the city as it is. */
final class TermsFourEdges {
    private static final int NONE = ThimbleLaw.NONE;
    private static final String PART = "Terms IV";

    private final Edges e;

    private TermsFourEdges(Edges e) {
        this.e = e;
    }

    static void all(Edges e) {
        TermsFourEdges tests = new TermsFourEdges(e);
        tests.years();
        tests.wouldTell();
        tests.against();
        tests.even();
        tests.worst();
        tests.dentsAndCases();
        tests.whose();
        tests.game();
        tests.byTheBook();
        tests.soberAndHeaviest();
    }

    private void shrunk(int count, int least, int greatest) {
        e.asked("shrunk(0)", count);
        e.asked("shrunk(1)", least);
        e.asked("shrunk(2)", greatest);
    }

    private void years() {
        e.test(PART, "SHRUNK: YEARS (8 at most; told: so many DROPS 0 .. 999 filled so many thimbles (0 .. 999), one that "
            + "isn't full aside):", () -> {
            e.refused(-2, "year(-2, 0)", "year(1000, 0)", "year(0, -1)", "year(0, 1000)");
            e.in("year(0, 0)", 1);
            e.in("year(999, 0)", 2);
            e.in("year(0, 999)", 3);
            for (int i = 4; i <= 8; i++) {
                e.in("year(100, 5)", i);
            }
            e.refused(-2, "year(100, 5)", "year(1000, 0)");
            e.in("about(5)", 8);
            // A fifth of 100 is full up to 20 drops, a sixth begins by 16.
            e.life("year(100, 5)");
            shrunk(4, 17, 20);
        });
        e.test(PART, "STANDARDS (1 .. 99) by which all YEARS are so: how many, the least, the greatest (NONE each).", () -> {
            shrunk(99, 1, 99);
            e.then("year(0, 0)");
            shrunk(99, 1, 99);
            e.life("year(999, 999)");
            shrunk(1, 1, 1);
            e.life("year(98, 0)");
            shrunk(1, 99, 99);
            e.then("year(99, 0)");
            e.out("shrunk(0)", 0);
            e.out("shrunk(1)", NONE);
            e.out("shrunk(2)", NONE);
            e.life("year(99, 1)");
            shrunk(50, 50, 99);
            e.life("year(98, 1)");
            shrunk(49, 50, 98);
            e.life("year(0, 1)");
            e.out("shrunk(0)", 0);
            e.out("shrunk(1)", NONE);
        });
    }

    private void wouldTell() {
        e.test(PART, "WOULD TELL: the number of DROPS (0 .. 999) for which most unlike counts of thimbles come of all these; "
            + "of like ones the lowest; none (no STANDARDS).", () -> {
            e.asked("wouldTell()", 961);
            // One STANDARD alone: any number tells as much, and 0 is the lowest.
            e.life("year(999, 999)");
            e.asked("wouldTell()", 0);
            // 98 and 99: 98 drops are the first that tell.
            e.life("year(97, 0)");
            e.asked("wouldTell()", 98);
            // 37 .. 40: just 999 drops give four unlike counts (27, 26, 25, 24).
            e.life("year(36, 0)", "year(40, 1)");
            shrunk(4, 37, 40);
            e.asked("wouldTell()", 999);
            e.life("year(99, 0)");
            e.refused(NONE, "wouldTell()");
        });
    }

    private void against() {
        e.test(PART, "TEARS AGAINST: with t (0 .. 999) tears: the most KINDS 0 .. 2 of one that is OVER in them, that could be "
            + "washed till it isn't OVER in these any more;", () -> {
            // OVER by 1 in lies, 5 in drink, 10 in blows.
            e.life("one(0, 0, 0)", "deed(0, 0, 61)", "deed(0, 1, 45)", "deed(0, 2, 30)");
            e.asked("against(0, 999, false)", 7);
            e.asked("against(0, 999, true)", 16);
            e.asked("against(0, 16, false)", 7);
            e.out("against(0, 15, false)", 3);
            e.asked("against(0, 6, false)", 3);
            e.out("against(0, 5, false)", 1);
            e.asked("against(0, 1, true)", 1);
            e.out("against(0, 0, false)", 0);
            e.out("against(0, 0, true)", 0);
            e.refused(NONE, "against(0, -1, false)", "against(0, 1000, false)", "against(0, 1000, true)");
            // In which it isn't OVER is none of these, though 0 tears would do.
            e.life("one(0, 0, 0)", "deed(0, 0, 60)");
            e.asked("against(0, 999, false)", 0);
            e.asked("against(0, 999, true)", 0);
        });
        e.test(PART, "of like ones the fewest tears, then the lowest set: KINDS (bits), how many tears.", () -> {
            e.life("one(0, 0, 0)", "deed(0, 0, 70)", "deed(0, 1, 49)", "deed(0, 2, 29)");
            e.asked("against(0, 10, false)", 2);
            e.asked("against(0, 10, true)", 9);
            e.asked("against(0, 19, false)", 6);
            e.then("deed(0, 1, 1)", "deed(0, 2, 1)");
            e.out("against(0, 10, false)", 1);
            e.out("against(0, 20, false)", 3);
            e.out("against(0, 20, true)", 20);
        });
    }

    private void even() {
        e.test(PART, "EVEN DENTS: a set of PEOPLE parted into two whose ROOMS together differ least; of like ones the lowest "
            + "set for the side with the lowest of them: by how much, that side (bits).", () -> {
            e.life(Edges.times(4, "one(0, 0, 0)"));
            e.asked("even(7, false)", 20);
            e.asked("even(7, true)", 1);
            e.asked("even(15, false)", 0);
            e.asked("even(15, true)", 3);
            e.asked("even(14, true)", 2);
            e.asked("even(12, true)", 4);
            // One alone: all of it on its side.
            e.asked("even(8, false)", 20);
            e.asked("even(8, true)", 8);
            e.refused(NONE, "even(0, false)", "even(16, false)", "even(17, true)", "even(-1, true)");
            // 20 against 11 and 12: three more; 20 and 11 against 12 are 19 more.
            e.life("one(0, 9, 0)", "one(0, 0, 0)", "one(0, 8, 0)");
            e.out("even(7, false)", 3);
            e.out("even(7, true)", 5);
        });
    }

    private void worst() {
        e.test(PART, "WORST: the one whose DROPS above BRIM times ROOM, of all KINDS together, are most; of like ones the "
            + "lowest; none (nobody is OVER).", () -> {
            e.refused(NONE, "worst()");
            e.life("one(0, 0, 0)", "one(0, 0, 0)", "one(0, 0, 0)", "deed(0, 0, 60)", "deed(1, 1, 40)", "deed(2, 2, 20)");
            e.refused(NONE, "worst()");
            e.then("deed(2, 2, 1)");
            e.asked("worst()", 2);
            e.then("deed(1, 1, 1)");
            e.asked("worst()", 1);
            e.then("deed(0, 0, 1)");
            e.asked("worst()", 0);
            // Of all KINDS together: two of 1 are more than one of 1; what is below a brim takes nothing away.
            e.then("deed(1, 2, 21)");
            e.out("worst()", 1);
        });
    }

    private void dentsAndCases() {
        e.test(PART, "MORE DENTS: how many more DENTS one could have (9 in all at most), being OVER in nothing (as its DROPS "
            + "are); none (it is OVER).", () -> {
            e.life("one(0, 0, 0)", "one(0, 9, 0)", "deed(0, 2, 11)");
            e.asked("moreDents(0)", 9);
            e.asked("moreDents(1)", 0);
            e.then("deed(0, 2, 1)");
            e.out("moreDents(0)", 8);
            e.then("deed(0, 2, 8)");
            e.asked("moreDents(0)", 0);
            e.then("deed(0, 2, 1)");
            e.refused(NONE, "moreDents(0)");
            // Each of KINDS 0 .. 2 counts: 34 lies are three thimbles of 12, 31 drinks two of 16.
            e.life("one(0, 0, 0)", "deed(0, 0, 34)");
            e.asked("moreDents(0)", 8);
            e.then("deed(0, 1, 31)");
            e.asked("moreDents(0)", 4);
            // ROOM is 1 at least.
            e.life("one(0, 0, 0)", "standard(1)", "deed(0, 2, 1)");
            e.asked("moreDents(0)", 9);
        });
        e.test(PART, "CASES: pairs of one of PEOPLE and a KIND 0 .. 2, in which it is OVER now, but wouldn't be, were THE "
            + "STANDARD s (1 .. 99), or the other way about: how many.", () -> {
            e.life("one(0, 0, 0)", "deed(0, 2, 15)");
            e.asked("cases(15)", 0);
            e.out("cases(14)", 1);
            e.then("deed(0, 2, 5)");
            e.asked("cases(20)", 0);
            e.asked("cases(21)", 0);
            e.out("cases(19)", 1);
            e.then("deed(0, 2, 5)");
            e.asked("cases(24)", 0);
            e.out("cases(25)", 1);
            e.asked("cases(20)", 0);
            e.then("deed(0, 0, 4)", "deed(0, 1, 3)", "one(0, 9, 0)", "deed(1, 1, 2)");
            // By 1: lies and drink of the first are OVER then; 2 drops are two thimbles of 1.
            e.asked("cases(1)", 2);
            e.asked("cases(99)", 1);
            e.refused(NONE, "cases(0)", "cases(100)", "cases(-1)");
            e.life();
            e.asked("cases(1)", 0);
            // Of six: 30 drinks by 40 drops, 5 lies of one with nine dents.
            e.life(Lives.full());
            e.asked("cases(20)", 0);
            e.asked("cases(14)", 1);
            e.asked("cases(1)", 2);
        });
    }

    private void whose() {
        e.test(PART, "WHOSE LAW (told: DRIED, 8 at most: who, a KIND 0 .. 3, by how much 0 .. 99): TEXTS (bits) by whose dries "
            + "all are so.", () -> {
            e.asked("whose()", 0);
            e.then("one(0, 0, 0)");
            e.refused(-2, "dried(1, 0, 1)", "dried(-2, 0, 1)", "dried(0, -1, 1)", "dried(0, 4, 1)", "dried(0, 0, -1)",
                "dried(0, 0, 100)");
            e.in("dried(0, 0, 0)", 1);
            e.in("dried(0, 3, 99)", 2);
            for (int i = 3; i <= 8; i++) {
                e.in("dried(0, 1, 5)", i);
            }
            e.refused(-2, "dried(0, 0, 0)", "dried(0, 4, 0)");
            e.in("about(6)", 8);
            e.life("one(0, 0, 0)", "tape dries 0;", "text()", "tape dries 99;", "text()", "tape dries kind;", "text()",
                "tape dries 100;", "text()");
            e.asked("whose()", 15);
            e.then("dried(0, 3, 99)");
            e.asked("whose()", 10);
            e.then("dried(-1, 0, 0)", "dried(0, 0, 0)");
            e.asked("whose()", 5);
            e.then("dried(0, 1, 1)");
            e.asked("whose()", 4);
            e.then("dried(0, 2, 1)");
            e.out("whose()", 0);
        });
    }

    private void game() {
        e.test(PART, "A GAME: one takes a little in one of KINDS 0 .. 2, the inspector looks for one of them: taken and looked "
            + "for, it costs COSTS of that KIND (told, 1 .. 99; at first 1), else nothing: the ODDS by which he looks for a "
            + "KIND, so that it costs alike much on the mean in each, in lowest terms.", () -> {
            for (int kind = 0; kind <= 2; kind++) {
                e.asked("game(" + kind + ", false)", 1);
                e.asked("game(" + kind + ", true)", 3);
            }
            e.in("costs(2, 99)", 1);
            e.asked("game(2, false)", 1);
            e.asked("game(2, true)", 199);
            e.asked("game(0, false)", 99);
            e.asked("game(0, true)", 199);
            e.refused(0, "costs(2, 0)", "costs(2, 100)", "costs(-1, 5)", "costs(3, 5)", "costs(2, -1)");
            e.in("costs(0, 99)", 1);
            e.in("costs(1, 99)", 1);
            // 9801 of 29403 are 1 of 3.
            e.asked("game(0, false)", 1);
            e.asked("game(0, true)", 3);
            e.refused(NONE, "game(3, false)", "game(-1, false)");
        });
    }

    private void byTheBook() {
        e.test(PART, "BY THE BOOK: how much one was fined (NONE: all), how many fines of a KIND.", () -> {
            e.asked("fined(-1)", 0);
            e.asked("fines(0)", 0);
            e.refused(-2, "fined(0)", "fined(-2)", "fines(-1)", "fines(3)");
            e.life(Lives.fines(30));
            e.asked("fined(0)", 465);
            e.asked("fines(2)", 30);
            e.asked("fines(1)", 0);
            e.then("one(0, 0, 5)", "deed(1, 1, 99)");
            e.in("pour(1, 1)", 5);
            // The first fine, of 1, is in the BOOK no more.
            e.out("fined(0)", 464);
            e.out("fines(2)", 29);
            e.asked("fined(1)", 5);
            e.asked("fined(-1)", 469);
            e.asked("fines(1)", 1);
            e.refused(-2, "fined(2)");
        });
    }

    private void soberAndHeaviest() {
        e.test(PART, "SOBER: PEOPLE (bits) without DROPS of a KIND.", () -> {
            e.asked("sober(0)", 0);
            e.then("one(0, 0, 0)", "one(0, 0, 0)");
            e.asked("sober(0)", 3);
            e.then("deed(0, 0, 1)", "weep(1, 1)");
            e.out("sober(0)", 2);
            e.asked("sober(1)", 3);
            e.out("sober(3)", 1);
            e.refused(NONE, "sober(-1)", "sober(4)");
        });
        e.test(PART, "HEAVIEST: the KIND 0 .. 3 of which all together have most DROPS; of like ones the lowest.", () -> {
            e.asked("heaviest()", 0);
            e.then("one(0, 0, 0)", "one(0, 0, 0)");
            e.asked("heaviest()", 0);
            e.then("weep(0, 1)");
            e.asked("heaviest()", 3);
            e.then("weep(0, 1)");
            e.asked("heaviest()", 3);
            e.then("deed(1, 2, 1)");
            e.asked("heaviest()", 3);
            e.then("deed(0, 2, 1)");
            e.out("heaviest()", 2);
            e.then("deed(1, 1, 2)");
            e.out("heaviest()", 1);
            e.then("deed(1, 0, 2)");
            e.out("heaviest()", 0);
        });
    }
}
