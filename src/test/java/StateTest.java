/** Promises 20 to 23 and 44 to 50: what is, the book of fines, the image and what there is of all. */
final class StateTest {
    private static final int NONE = ThimbleLaw.NONE;
    private static final Due due = new Due();

    public static void main(String[] args) {
        promise20Of();
        promise21Drops();
        promise22Is();
        promise23Book();
        promise44and45ByTheBook();
        promise46Sober();
        promise47Heaviest();
        promise48and49Image();
        promise49TextsAgain();
        promise50About();
        due.end("StateTest");
    }

    private static void promise20Of() {
        ThimbleLaw x = new ThimbleLaw();
        x.one(2, 9, 321);
        x.standard(10);
        due.is("20 stuff", x.of(0, 0), 2);
        due.is("20 dent", x.of(0, 1), 9);
        due.is("20 coins", x.of(0, 2), 321);
        due.is("20 room", x.of(0, 3), 1);
        x.standard(3);
        due.is("20 room 1 at least", x.of(0, 3), 1);
        x.deed(0, 0, 4);
        x.deed(0, 1, 2);
        x.deed(0, 2, 2);
        due.is("20 over", x.of(0, 4), 5);
        x.brim(2, 2);
        due.is("20 a full brim is not over", x.of(0, 4), 1);
        due.is("20 others", x.of(0, 5), NONE);
        due.is("20 others", x.of(0, -1), NONE);
        due.is("20 nobody", x.of(1, 0), NONE);
        due.is("20 nobody", x.of(-1, 0), NONE);
    }

    private static void promise21Drops() {
        ThimbleLaw x = new ThimbleLaw();
        x.one(1, 2, 50);
        x.deed(0, 1, 40);
        x.weep(0, 6);
        due.is("21 drops", x.drops(0, 1, 0), 40);
        due.is("21 dries of wood", x.drops(0, 1, 1), 3);
        due.is("21 errs", x.drops(0, 1, 2), 1);
        due.is("21 fine", x.drops(0, 1, 3), 4);
        due.is("21 tears", x.drops(0, 3, 0), 6);
        due.is("21 tears dry", x.drops(0, 3, 1), 3);
        due.is("21 tears don't err", x.drops(0, 3, 2), NONE);
        due.is("21 tears aren't fined", x.drops(0, 3, 3), NONE);
        due.is("21 others", x.drops(0, 0, 4), NONE);
        due.is("21 others", x.drops(0, 0, -1), NONE);
        due.is("21 kind", x.drops(0, 4, 0), NONE);
        due.is("21 kind", x.drops(0, -1, 0), NONE);
        due.is("21 nobody", x.drops(1, 0, 0), NONE);
        Due.read(x, "dries 100;errs 11;fine 9999+1;");
        Due.read(x, "dries -1;errs -1;fine -1;");
        Due.read(x, "fine coins*2;");
        x.by(0);
        due.is("21 at most", x.drops(0, 1, 1), 99);
        due.is("21 at most", x.drops(0, 1, 2), 10);
        due.is("21 at most", x.drops(0, 1, 3), 9999);
        x.by(1);
        due.is("21 at least", x.drops(0, 1, 1), 0);
        due.is("21 at least", x.drops(0, 1, 2), 0);
        due.is("21 at least", x.drops(0, 1, 3), 0);
        x.by(2);
        due.is("21 as law says, COINS or not", x.drops(0, 1, 3), 100);
        due.is("21 without dries", x.drops(0, 1, 1), 3);
    }

    private static void promise22Is() {
        ThimbleLaw x = new ThimbleLaw();
        x.day(4);
        x.standard(33);
        x.brim(0, 4);
        x.brim(1, 5);
        x.brim(2, 6);
        x.centuries(100, 1);
        int[] want = {x.about(3) == 5 ? 4 : -9, 33, (357 * 389 + 269) % 30493, 4, 5, 6};
        for (int i = 0; i < want.length; i++) {
            due.is("22 is(" + i + ")", x.is(i), want[i]);
        }
        due.is("22 others", x.is(6), -2);
        due.is("22 others", x.is(-1), -2);
    }

    private static ThimbleLaw withFines() {
        ThimbleLaw x = new ThimbleLaw();
        x.one(0, 0, 9999);
        x.one(0, 0, 9999);
        Due.read(x, "errs 10;fine 100*who+10*kind+day;");
        x.by(0);
        x.pour(1, 2);
        x.day(3);
        x.pour(0, 1);
        x.pour(1, 1);
        return x;
    }

    private static void promise23Book() {
        ThimbleLaw x = withFines();
        int[][] want = {{0, 1, 2, 120}, {3, 0, 1, 13}, {3, 1, 1, 113}};
        due.is("23 how many", x.book(NONE, 0), 3);
        due.is("23 how many, whatever is asked", x.book(NONE, 9), 3);
        for (int i = 0; i < 3; i++) {
            for (int what = 0; what < 4; what++) {
                due.is("23 book(" + i + ", " + what + ")", x.book(i, what), want[i][what]);
            }
        }
        due.is("23 none such", x.book(3, 0), -2);
        due.is("23 none such", x.book(-2, 0), -2);
        due.is("23 others", x.book(0, 4), -2);
        due.is("23 others", x.book(0, -1), -2);
        ThimbleLaw y = new ThimbleLaw();
        for (int i = 0; i < 6; i++) {
            y.one(0, 0, 9999);
        }
        Due.read(y, "errs 10;fine 9999;");
        y.by(0);
        for (int i = 0; i < 166; i++) {
            y.day(60);
        }
        y.day(39);
        y.pour(5, 2);
        int[] most = {9999, 5, 2, 9999};
        for (int what = 0; what < 4; what++) {
            due.is("23 the greatest of all", y.book(0, what), most[what]);
        }
    }

    private static void promise44and45ByTheBook() {
        ThimbleLaw x = withFines();
        due.is("44 of 0", x.fined(0), 13);
        due.is("44 of 1", x.fined(1), 233);
        due.is("44 all", x.fined(NONE), 246);
        due.is("44 nobody", x.fined(2), -2);
        due.is("44 others", x.fined(-2), -2);
        due.is("45 lies", x.fines(0), 0);
        due.is("45 drink", x.fines(1), 2);
        due.is("45 blows", x.fines(2), 1);
        due.is("45 tears", x.fines(3), -2);
        due.is("45 others", x.fines(-1), -2);
        for (int i = 0; i < 30; i++) {
            x.pour(0, 0);
        }
        due.is("44 the latest thirty alone", x.fined(1), 0);
        due.is("45 the latest thirty alone", x.fines(0), 30);
        due.is("45 the latest thirty alone", x.fines(1), 0);
    }

    private static void promise46Sober() {
        ThimbleLaw x = new ThimbleLaw();
        due.is("46 nobody", x.sober(0), 0);
        x.one(0, 0, 0);
        x.one(0, 0, 0);
        x.one(0, 0, 0);
        x.deed(1, 1, 1);
        x.weep(2, 1);
        due.is("46", x.sober(0), 7);
        due.is("46", x.sober(1), 5);
        due.is("46 tears too", x.sober(3), 3);
        due.is("46 others", x.sober(4), NONE);
        due.is("46 others", x.sober(-1), NONE);
    }

    private static void promise47Heaviest() {
        ThimbleLaw x = new ThimbleLaw();
        due.is("47 nobody", x.heaviest(), 0);
        x.one(0, 0, 0);
        x.one(0, 0, 0);
        x.deed(1, 0, 1);
        due.is("47 lies", x.heaviest(), 0);
        x.deed(0, 2, 1);
        due.is("47 like ones", x.heaviest(), 0);
        x.deed(0, 2, 4);
        due.is("47", x.heaviest(), 2);
        x.deed(0, 1, 3);
        x.deed(1, 1, 2);
        due.is("47 of like ones the lowest", x.heaviest(), 1);
        x.weep(1, 6);
        due.is("47 tears too", x.heaviest(), 3);
    }

    private static void promise48and49Image() {
        ThimbleLaw x = new ThimbleLaw();
        x.one(1, 2, 300);
        x.one(0, 0, 10);
        x.way(0, 1, 9);
        x.deed(0, 2, 60);
        x.day(2);
        x.pour(0, 2);
        x.plan(0, 3);
        x.year(10, 2);
        x.dried(0, 0, 3);
        x.costs(1, 7);
        x.brim(1, 8);
        Due.read(x, "dries 5;");
        x.by(0);
        due.is("48 the day", x.image(), 2);
        int[] was = all(x);
        x.one(2, 3, 4);
        x.way(0, 1, 2);
        x.deed(1, 0, 9);
        x.day(5);
        x.pour(0, 0);
        x.bend(1);
        x.standard(40);
        x.undo();
        x.plan(NONE, 0);
        x.plan(1, 9);
        x.year(NONE, 0);
        x.dried(1, 1, 1);
        x.costs(1, 9);
        x.brim(1, 1);
        x.by(NONE);
        Due.read(x, "day;");
        Due.tape(x, "dries 1;");
        due.is("49 the day", x.back(), 2);
        int[] is = all(x);
        for (int i = 0; i < was.length; i++) {
            due.is("49 as it was, " + i, is[i], was[i]);
        }
        due.is("49 the tape stays", x.about(7), 8);
        due.is("49 the fault stays", x.fault(0), 1);
        due.is("49 steps again", x.undo(), 3);
        due.is("49 before pouring", x.drops(0, 2, 0), 54);
        due.is("49 the image stays", x.back(), 2);
        due.is("49 the image stays", x.about(3), was[3]);
    }

    private static int[] all(ThimbleLaw x) {
        return new int[] {x.about(0), x.about(1), x.about(2), x.about(3), x.about(4), x.about(5), x.about(6),
            x.is(0), x.is(1), x.is(2), x.is(3), x.is(4), x.is(5), x.of(0, 1), x.of(0, 2), x.of(0, 3), x.of(1, 1),
            x.drops(0, 2, 0), x.drops(0, 2, 1), x.drops(1, 0, 0), x.round(NONE), x.book(NONE, 0), x.book(0, 3),
            x.within(0), x.shrunk(2), x.whose(), x.game(1, true), x.of(2, 0)};
    }

    private static void promise49TextsAgain() {
        ThimbleLaw x = new ThimbleLaw();
        x.one(0, 0, 0);
        Due.read(x, "dries 2;");
        x.image();
        Due.read(x, "dries 4;");
        x.by(1);
        x.back();
        due.is("49 texts", x.about(1), 1);
        due.is("49 the text", x.about(2), NONE);
        due.is("49 no longer there", x.by(1), false);
        due.is("49 told anew", Due.read(x, "dries 6;"), 1);
        x.by(1);
        due.is("49 the new one", x.drops(0, 0, 1), 6);
        x.by(0);
        due.is("49 the old one", x.drops(0, 0, 1), 2);
    }

    private static void promise50About() {
        ThimbleLaw x = new ThimbleLaw();
        x.one(0, 0, 0);
        x.one(0, 0, 0);
        Due.read(x, "");
        Due.read(x, "");
        Due.read(x, "");
        x.by(2);
        x.day(4);
        for (int i = 0; i < 5; i++) {
            x.plan(0, 1);
        }
        for (int i = 0; i < 6; i++) {
            x.year(0, 0);
        }
        for (int i = 0; i < 7; i++) {
            x.dried(0, 0, 0);
        }
        Due.tape(x, "12345678");
        int[] want = {2, 3, 2, 4, 5, 6, 7, 8};
        for (int i = 0; i < want.length; i++) {
            due.is("50 about(" + i + ")", x.about(i), want[i]);
        }
        due.is("50 others", x.about(8), -2);
        due.is("50 others", x.about(-1), -2);
    }
}
