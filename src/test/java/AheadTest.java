/** Promises 24 to 31: what comes, the first brim, a life within, pouring often, a round. */
final class AheadTest {
    private static final int NONE = ThimbleLaw.NONE;
    private static final Due due = new Due();

    public static void main(String[] args) {
        promise24Foretold();
        promise25FirstBrim();
        promise26Plan();
        promise27Within();
        promise28Wrongly();
        promise29HowOften();
        promise30Way();
        promise31Round();
        due.end("AheadTest");
    }

    private static void promise24Foretold() {
        ThimbleLaw x = new ThimbleLaw();
        x.one(0, 0, 0);
        x.deed(0, 0, 99);
        x.weep(0, 30);
        due.is("24", x.foretold(1, 0, 0), 98);
        due.is("24 tears", x.foretold(29, 0, 3), 1);
        due.is("24 0 at least", x.foretold(60, 0, 3), 0);
        due.is("24 none", x.foretold(0, 0, 0), NONE);
        due.is("24 too many", x.foretold(61, 0, 0), NONE);
        due.is("24 nobody", x.foretold(1, 1, 0), NONE);
        due.is("24 kind", x.foretold(1, 0, 4), NONE);
        due.is("24 kind", x.foretold(1, 0, -1), NONE);
        Due.read(x, "dries if day/2*2=day then drops/3 else day end;");
        x.by(0);
        for (int n = 1; n <= 12; n++) {
            int told = x.foretold(n, 0, 0);
            x.image();
            x.day(n);
            due.is("24 as it comes, " + n, told, x.drops(0, 0, 0));
            x.back();
        }
        due.is("24 changes nothing", x.is(0), 0);
        x.by(NONE);
        for (int i = 0; i < 166; i++) {
            x.day(60);
        }
        x.day(37);
        x.deed(0, 0, 9);
        due.is("24 days that can pass", x.foretold(60, 0, 0), 7);
        x.day(2);
        due.is("24 no day can", x.foretold(1, 0, 0), 7);
    }

    private static void promise25FirstBrim() {
        ThimbleLaw x = new ThimbleLaw();
        x.one(0, 0, 0);
        due.is("25 now", x.firstBrim(0, 2, 21), 0);
        due.is("25 a full brim is not over", x.firstBrim(0, 2, 20), 1);
        // Each day one drop more stays: 60 + 2 is over 61 behind the doing of the sixtieth day.
        x.standard(61);
        due.is("25 the sixtieth", x.firstBrim(0, 2, 2), 60);
        x.standard(62);
        due.is("25 beyond", x.firstBrim(0, 2, 2), NONE);
        due.is("25 never", x.firstBrim(0, 2, 1), NONE);
        due.is("25 tears", x.firstBrim(0, 3, 9), NONE);
        due.is("25 kind", x.firstBrim(0, -1, 9), NONE);
        due.is("25 nobody", x.firstBrim(1, 0, 9), NONE);
        due.is("25 nothing", x.firstBrim(0, 0, 0), NONE);
        due.is("25 too much", x.firstBrim(0, 0, 100), NONE);
        due.is("25 changes nothing", x.drops(0, 2, 0), 0);
        for (int i = 0; i < 166; i++) {
            x.day(60);
        }
        x.day(38);
        x.standard(20);
        due.is("25 the last day passes", x.firstBrim(0, 2, 11), 1);
        due.is("25 none behind it", x.firstBrim(0, 2, 8), NONE);
        x.brim(2, 0);
        due.is("25 without a brim", x.firstBrim(0, 2, 1), 0);
    }

    private static void promise26Plan() {
        ThimbleLaw x = new ThimbleLaw();
        due.is("26 tears", x.plan(3, 1), -2);
        due.is("26 kind", x.plan(-2, 1), -2);
        due.is("26 nothing", x.plan(0, 0), -2);
        due.is("26 too much", x.plan(0, 100), -2);
        for (int i = 1; i <= 8; i++) {
            due.is("26", x.plan(i % 3, i == 8 ? 99 : i), i);
        }
        due.is("26 ninth", x.plan(0, 1), -2);
        due.is("26 how many", x.about(4), 8);
        due.is("26 none any more", x.plan(NONE, 5), 0);
        due.is("26 how many", x.about(4), 0);
        due.is("26 anew", x.plan(2, 1), 1);
    }

    private static void promise27Within() {
        ThimbleLaw x = new ThimbleLaw();
        due.is("27 nobody", x.within(0), NONE);
        x.one(0, 0, 0);
        due.is("27 no deeds", x.within(0), 0);
        x.plan(2, 15);
        x.plan(2, 6);
        x.plan(2, 14);
        x.plan(2, 5);
        // Two of them at most; 15 + 5 and 6 + 14 are 20 drops both: the lowest set.
        due.is("27 most drops, then the lowest", x.within(0), 6);
        x.deed(0, 2, 15);
        due.is("27 with what there is", x.within(0), 8);
        x.deed(0, 2, 10);
        due.is("27 over already", x.within(0), 0);
        x.plan(1, 40);
        due.is("27 over in another kind", x.within(0), 16);
        x.plan(1, 1);
        due.is("27 one of the two, most drops", x.within(0), 16);
        x.plan(0, 60);
        x.plan(0, 1);
        due.is("27 of two kinds", x.within(0), 16 + 64);
        due.is("27 nobody", x.within(1), NONE);
        due.is("27 nobody", x.within(-1), NONE);
        ThimbleLaw y = new ThimbleLaw();
        y.one(0, 0, 0);
        y.standard(99);
        y.brim(0, 9);
        for (int i = 0; i < 10; i++) {
            y.deed(0, 0, 89);
        }
        y.plan(0, 1);
        y.plan(0, 99);
        due.is("27 999 or not", y.within(0), 1);
    }

    private static void promise28Wrongly() {
        ThimbleLaw x = new ThimbleLaw();
        x.one(0, 0, 0);
        due.is("28 of 1", x.wrongly(0, 0, 1, false), 1);
        due.is("28 of 1", x.wrongly(0, 0, 1, true), 10);
        due.is("28 of 3", x.wrongly(0, 0, 3, false), 7);
        due.is("28 of 3", x.wrongly(0, 0, 3, true), 250);
        // C(9,5) 9^4 + C(9,6) 9^3 + C(9,7) 9^2 + C(9,8) 9 + 1 = 890920 of 10^9.
        due.is("28 of 9, upper", x.wrongly(0, 0, 9, false), 22273);
        due.is("28 of 9, lower", x.wrongly(0, 0, 9, true), 25000000);
        for (int n : new int[] {-1, 0, 2, 4, 8, 10, 11}) {
            due.is("28 n " + n, x.wrongly(0, 0, n, false), NONE);
        }
        due.is("28 tears", x.wrongly(0, 3, 1, true), NONE);
        due.is("28 kind", x.wrongly(0, -1, 1, true), NONE);
        due.is("28 nobody", x.wrongly(1, 0, 1, true), NONE);
        Due.read(x, "errs if kind=0 then 0 else kind*5 end;");
        x.by(0);
        due.is("28 never", x.wrongly(0, 0, 7, false), 0);
        due.is("28 never", x.wrongly(0, 0, 7, true), 1);
        due.is("28 a half", x.wrongly(0, 1, 5, false), 1);
        due.is("28 a half", x.wrongly(0, 1, 5, true), 2);
        due.is("28 always", x.wrongly(0, 2, 9, false), 1);
        due.is("28 always", x.wrongly(0, 2, 9, true), 1);
    }

    private static void promise29HowOften() {
        ThimbleLaw x = new ThimbleLaw();
        x.one(0, 0, 0);
        due.is("29 10 of 100 is no more than 10", x.howOften(0, 0, 10), 1);
        due.is("29", x.howOften(0, 0, 9), 3);
        due.is("29 2.8 of 100", x.howOften(0, 0, 2), 5);
        due.is("29 0.856 of 100", x.howOften(0, 0, 1), 5);
        due.is("29 none", x.howOften(0, 0, 0), NONE);
        due.is("29 p", x.howOften(0, 0, -1), NONE);
        due.is("29 p", x.howOften(0, 0, 101), NONE);
        due.is("29 all", x.howOften(0, 0, 100), 1);
        due.is("29 tears", x.howOften(0, 3, 50), NONE);
        due.is("29 nobody", x.howOften(1, 0, 50), NONE);
        Due.read(x, "errs kind*4;");
        x.by(0);
        due.is("29 never wrong", x.howOften(0, 0, 0), 1);
        due.is("29 of 4, nine times", x.howOften(0, 1, 27), 9);
        due.is("29 of 4", x.howOften(0, 1, 26), NONE);
        due.is("29 of 8", x.howOften(0, 2, 79), NONE);
        due.is("29 of 8", x.howOften(0, 2, 80), 1);
    }

    private static void promise30Way() {
        ThimbleLaw x = new ThimbleLaw();
        x.one(0, 0, 0);
        x.one(0, 0, 0);
        due.is("30 least", x.way(0, 1, 1), true);
        due.is("30 most", x.way(1, 0, 99), true);
        due.is("30 both ways alike", x.round(NONE), 198);
        due.is("30 alike ones", x.way(1, 1, 5), false);
        due.is("30 nobody", x.way(0, 2, 5), false);
        due.is("30 nobody", x.way(-1, 0, 5), false);
        due.is("30 nothing", x.way(0, 1, 0), false);
        due.is("30 too long", x.way(0, 1, 100), false);
        due.is("30 stays", x.round(NONE), 198);
    }

    private static void promise31Round() {
        ThimbleLaw x = new ThimbleLaw();
        due.is("31 nobody", x.round(NONE), 0);
        due.is("31 nobody", x.round(0), -2);
        x.one(0, 0, 0);
        due.is("31 one", x.round(NONE), 0);
        due.is("31 one", x.round(0), -2);
        x.one(0, 0, 0);
        due.is("31 two", x.round(NONE), 2);
        due.is("31 two", x.round(0), 1);
        due.is("31 two", x.round(1), -2);
        for (int i = 2; i < 6; i++) {
            x.one(0, 0, 0);
        }
        due.is("31 six", x.round(NONE), 6);
        for (int i = 0; i < 5; i++) {
            due.is("31 the lowest next", x.round(i), i + 1);
        }
        due.is("31 others", x.round(5), -2);
        due.is("31 others", x.round(-2), -2);
        for (int a = 0; a < 6; a++) {
            for (int b = a + 1; b < 6; b++) {
                x.way(a, b, 50);
            }
        }
        due.is("31 all alike", x.round(NONE), 300);
        for (int a = 0; a < 6; a++) {
            for (int b = a + 1; b < 6; b++) {
                x.way(a, b, 99);
            }
        }
        due.is("31 the longest of all", x.round(NONE), 594);
        due.is("31 the lowest next", x.round(4), 5);
        int[] houses = {3, 1, 5, 2, 4};
        int here = 0;
        for (int next : houses) {
            x.way(here, next, 2);
            here = next;
        }
        x.way(here, 0, 7);
        due.is("31 how long", x.round(NONE), 17);
        for (int i = 0; i < 5; i++) {
            due.is("31 house " + i, x.round(i), houses[i]);
        }
    }
}
