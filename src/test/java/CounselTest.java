/** Promises 32 to 43: the standard, tears against drops, dents, whose law it was, a game. */
final class CounselTest {
    private static final int NONE = ThimbleLaw.NONE;
    private static final Due due = new Due();

    public static void main(String[] args) {
        promise32Year();
        promise33Shrunk();
        promise34WouldTell();
        promise35Against();
        promise36Even();
        promise37Worst();
        promise38MoreDents();
        promise39Cases();
        promise40Dried();
        promise41Whose();
        promise42Costs();
        promise43Game();
        due.end("CounselTest");
    }

    private static void promise32Year() {
        ThimbleLaw x = new ThimbleLaw();
        due.is("32 drops", x.year(-2, 0), -2);
        due.is("32 drops", x.year(1000, 0), -2);
        due.is("32 thimbles", x.year(0, -1), -2);
        due.is("32 thimbles", x.year(0, 1000), -2);
        due.is("32 least", x.year(0, 0), 1);
        due.is("32 most", x.year(999, 999), 2);
        for (int i = 3; i <= 8; i++) {
            due.is("32", x.year(i, i), i);
        }
        due.is("32 ninth", x.year(1, 1), -2);
        due.is("32 how many", x.about(5), 8);
        due.is("32 none any more", x.year(NONE, -7), 0);
        due.is("32 how many", x.about(5), 0);
    }

    private static void promise33Shrunk() {
        ThimbleLaw x = new ThimbleLaw();
        due.is("33 all", x.shrunk(0), 99);
        due.is("33 all", x.shrunk(1), 1);
        due.is("33 all", x.shrunk(2), 99);
        x.year(999, 999);
        due.is("33 one drop", x.shrunk(0), 1);
        due.is("33 one drop", x.shrunk(2), 1);
        x.year(NONE, 0);
        x.year(90, 0);
        due.is("33 none full", x.shrunk(0), 9);
        due.is("33 none full", x.shrunk(1), 91);
        due.is("33 none full", x.shrunk(2), 99);
        x.year(98, 0);
        due.is("33 99 alone", x.shrunk(1), 99);
        due.is("33 99 alone", x.shrunk(2), 99);
        x.year(NONE, 0);
        x.year(90, 0);
        x.year(98, 1);
        due.is("33 both years", x.shrunk(1), 91);
        due.is("33 both years", x.shrunk(2), 98);
        x.year(5, 5);
        due.is("33 no standard", x.shrunk(0), 0);
        due.is("33 no standard", x.shrunk(1), NONE);
        due.is("33 no standard", x.shrunk(2), NONE);
        due.is("33 others", x.shrunk(3), -2);
        due.is("33 others", x.shrunk(-1), -2);
    }

    private static void promise34WouldTell() {
        ThimbleLaw x = new ThimbleLaw();
        int best = 0;
        int most = 0;
        for (int drops = 0; drops <= 999; drops++) {
            boolean[] seen = new boolean[1000];
            int unlike = 0;
            for (int s = 1; s <= 99; s++) {
                unlike += seen[drops / s] ? 0 : 1;
                seen[drops / s] = true;
            }
            if (unlike > most) {
                most = unlike;
                best = drops;
            }
        }
        due.is("34 of all", x.wouldTell(), best);
        x.year(1, 1);
        due.is("34 of one alone", x.wouldTell(), 0);
        x.year(NONE, 0);
        x.year(5, 2);
        due.is("34 of one alone, 2", x.wouldTell(), 0);
        x.year(NONE, 0);
        x.year(2, 1);
        due.is("34 of one alone, 2 again", x.wouldTell(), 0);
        x.year(NONE, 0);
        x.year(3, 1);
        due.is("34 of 2 and 3", x.wouldTell(), 2);
        x.year(0, 1);
        due.is("34 none", x.wouldTell(), NONE);
    }

    private static void promise35Against() {
        ThimbleLaw x = new ThimbleLaw();
        x.one(0, 0, 0);
        x.brim(0, 1);
        x.brim(1, 1);
        x.deed(0, 0, 27);
        x.deed(0, 1, 25);
        x.deed(0, 2, 25);
        due.is("35 too few", x.against(0, 4, false), 0);
        due.is("35 too few", x.against(0, 4, true), 0);
        due.is("35 fewest tears, the lowest", x.against(0, 9, false), 2);
        due.is("35", x.against(0, 5, true), 5);
        due.is("35 two", x.against(0, 16, false), 6);
        due.is("35 two", x.against(0, 16, true), 10);
        due.is("35 all", x.against(0, 17, false), 7);
        due.is("35 all", x.against(0, 999, true), 17);
        due.is("35 t", x.against(0, -1, true), NONE);
        due.is("35 t", x.against(0, 1000, true), NONE);
        due.is("35 no tears", x.against(0, 0, true), 0);
        x.one(0, 0, 0);
        x.deed(1, 0, 30);
        due.is("35 lies alone", x.against(1, 10, false), 1);
        due.is("35 nobody", x.against(2, 1, true), NONE);
        due.is("35 nobody", x.against(-1, 1, false), NONE);
    }

    private static void promise36Even() {
        ThimbleLaw x = new ThimbleLaw();
        due.is("36 nobody", x.even(1, false), NONE);
        x.one(0, 0, 0);
        x.one(0, 5, 0);
        x.one(0, 5, 0);
        x.one(0, 0, 0);
        due.is("36 rooms 20 15 15 20", x.even(15, false), 0);
        due.is("36 the lowest set", x.even(15, true), 3);
        due.is("36 not the first", x.even(14, true), 6);
        due.is("36 not the first", x.even(14, false), 10);
        due.is("36 one", x.even(8, false), 20);
        due.is("36 one", x.even(8, true), 8);
        due.is("36 two", x.even(5, true), 1);
        due.is("36 two", x.even(5, false), 5);
        due.is("36 no one", x.even(0, false), NONE);
        due.is("36 not told", x.even(16, false), NONE);
        due.is("36 not told", x.even(17, true), NONE);
        due.is("36 below", x.even(-1, true), NONE);
        due.is("36 below", x.even(Integer.MIN_VALUE, true), NONE);
        x.one(0, 0, 0);
        x.one(0, 0, 0);
        due.is("36 all six", x.even(63, false), 0);
        due.is("36 not told", x.even(64, false), NONE);
    }

    private static void promise37Worst() {
        ThimbleLaw x = new ThimbleLaw();
        due.is("37 nobody", x.worst(), NONE);
        x.one(0, 0, 0);
        x.one(0, 0, 0);
        x.one(0, 0, 0);
        x.deed(0, 2, 20);
        due.is("37 nobody is over", x.worst(), NONE);
        x.deed(2, 2, 24);
        due.is("37", x.worst(), 2);
        x.deed(1, 2, 22);
        x.deed(1, 1, 42);
        due.is("37 of like ones the lowest", x.worst(), 1);
        x.deed(2, 2, 1);
        due.is("37 the most", x.worst(), 2);
        x.weep(0, 99);
        due.is("37 tears don't count", x.worst(), 2);
        x.deed(0, 0, 66);
        due.is("37 lies do", x.worst(), 0);
    }

    private static void promise38MoreDents() {
        ThimbleLaw x = new ThimbleLaw();
        x.one(0, 3, 0);
        due.is("38 up to 9", x.moreDents(0), 6);
        x.deed(0, 2, 15);
        due.is("38 room 15 is needed", x.moreDents(0), 2);
        x.deed(0, 2, 2);
        due.is("38 no more", x.moreDents(0), 0);
        x.deed(0, 2, 1);
        due.is("38 over", x.moreDents(0), NONE);
        x.undo();
        x.deed(0, 0, 48);
        x.deed(0, 1, 34);
        due.is("38 in each kind", x.moreDents(0), 0);
        x.deed(0, 1, 1);
        due.is("38 over in one", x.moreDents(0), NONE);
        due.is("38 nobody", x.moreDents(1), NONE);
        due.is("38 nobody", x.moreDents(-1), NONE);
        x.one(0, 9, 0);
        due.is("38 9 already", x.moreDents(1), 0);
        x.standard(2);
        x.one(0, 0, 0);
        x.deed(2, 2, 1);
        due.is("38 room is 1 at least", x.moreDents(2), 9);
    }

    private static void promise39Cases() {
        ThimbleLaw x = new ThimbleLaw();
        due.is("39 nobody", x.cases(1), 0);
        x.one(0, 0, 0);
        x.one(0, 5, 0);
        x.deed(0, 2, 20);
        x.deed(1, 2, 16);
        x.deed(1, 0, 50);
        // Over now: 1 in 2 (16 > 15) and in 0 (50 > 45).
        due.is("39 the same", x.cases(20), 0);
        due.is("39 more", x.cases(22), 2);
        due.is("39 less", x.cases(19), 1);
        due.is("39 other", x.cases(21), 1);
        due.is("39 s", x.cases(0), NONE);
        due.is("39 s", x.cases(100), NONE);
        due.is("39 most", x.cases(99), 2);
        due.is("39 least", x.cases(1), 1);
    }

    private static void promise40Dried() {
        ThimbleLaw x = new ThimbleLaw();
        due.is("40 nobody", x.dried(0, 0, 0), -2);
        x.one(0, 0, 0);
        due.is("40 kind", x.dried(0, 4, 0), -2);
        due.is("40 kind", x.dried(0, -1, 0), -2);
        due.is("40 drops", x.dried(0, 0, -1), -2);
        due.is("40 drops", x.dried(0, 0, 100), -2);
        due.is("40 one", x.dried(-2, 0, 0), -2);
        due.is("40 tears too", x.dried(0, 3, 99), 1);
        for (int i = 2; i <= 8; i++) {
            due.is("40", x.dried(0, 0, 0), i);
        }
        due.is("40 ninth", x.dried(0, 0, 0), -2);
        due.is("40 how many", x.about(6), 8);
        due.is("40 none any more", x.dried(NONE, 77, -7), 0);
        due.is("40 how many", x.about(6), 0);
    }

    private static void promise41Whose() {
        ThimbleLaw x = new ThimbleLaw();
        due.is("41 no texts", x.whose(), 0);
        x.one(1, 0, 0);
        x.one(0, 4, 0);
        Due.read(x, "dries 3;");
        Due.read(x, "errs 3;");
        Due.read(x, "dries dent;");
        due.is("41 nothing told", x.whose(), 7);
        x.dried(0, 2, 3);
        due.is("41 wood without a law", x.whose(), 3);
        x.dried(1, 3, 1);
        due.is("41 silver without a law", x.whose(), 2);
        x.dried(NONE, 0, 0);
        x.dried(1, 0, 4);
        due.is("41 as it is now", x.whose(), 4);
        x.bend(1);
        due.is("41 as it is then", x.whose(), 0);
    }

    private static void promise42Costs() {
        ThimbleLaw x = new ThimbleLaw();
        due.is("42 least", x.costs(0, 1), true);
        due.is("42 most", x.costs(2, 99), true);
        due.is("42 kind", x.costs(3, 1), false);
        due.is("42 kind", x.costs(-1, 1), false);
        due.is("42 below", x.costs(0, 0), false);
        due.is("42 above", x.costs(0, 100), false);
        due.is("42 told", x.game(2, true), 199);
    }

    private static void promise43Game() {
        ThimbleLaw x = new ThimbleLaw();
        due.is("43 alike", x.game(1, false), 1);
        due.is("43 alike", x.game(1, true), 3);
        x.costs(0, 99);
        x.costs(1, 98);
        x.costs(2, 97);
        // 98 * 97 of 98 * 97 + 99 * 97 + 99 * 98 = 28811.
        due.is("43 upper", x.game(0, false), 9506);
        due.is("43 lower", x.game(0, true), 28811);
        x.costs(0, 1);
        x.costs(1, 2);
        x.costs(2, 2);
        due.is("43 lowest terms", x.game(0, false), 1);
        due.is("43 lowest terms", x.game(0, true), 2);
        due.is("43 lowest terms", x.game(2, true), 4);
        due.is("43 kind", x.game(3, true), NONE);
        due.is("43 kind", x.game(-1, false), NONE);
    }
}
