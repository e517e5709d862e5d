/** Promises 10 to 19: what is done by hand, by scripts and by centuries, and taken back. */
final class StepsTest {
    private static final int NONE = ThimbleLaw.NONE;
    private static final Due due = new Due();

    public static void main(String[] args) {
        promise10Deed();
        promise11Weep();
        promise12Wash();
        promise13Pour();
        promise13PourErring();
        promise14Bend();
        promise15Shrink();
        promise16Day();
        promise17Played();
        promise18Centuries();
        promise19Undo();
        promise19UndoBeyondThirty();
        due.end("StepsTest");
    }

    private static ThimbleLaw withOne(int stuff, int dent, int coins) {
        ThimbleLaw x = new ThimbleLaw();
        x.one(stuff, dent, coins);
        return x;
    }

    private static void promise10Deed() {
        ThimbleLaw x = withOne(0, 0, 0);
        due.is("10 least", x.deed(0, 2, 1), 1);
        due.is("10 most", x.deed(0, 2, 99), 100);
        for (int i = 0; i < 9; i++) {
            x.deed(0, 2, 99);
        }
        due.is("10 to the full", x.deed(0, 2, 99), 999);
        due.is("10 a step even so", x.about(3), 12);
        due.is("10 nobody", x.deed(1, 0, 1), NONE);
        due.is("10 nobody", x.deed(-1, 0, 1), NONE);
        due.is("10 tears", x.deed(0, 3, 1), NONE);
        due.is("10 kind", x.deed(0, -1, 1), NONE);
        due.is("10 drops", x.deed(0, 0, 0), NONE);
        due.is("10 drops", x.deed(0, 0, 100), NONE);
        due.is("10 no steps", x.about(3), 12);
    }

    private static void promise11Weep() {
        ThimbleLaw x = withOne(0, 0, 0);
        due.is("11 least", x.weep(0, 1), 1);
        due.is("11 most", x.weep(0, 99), 100);
        due.is("11 as drops", x.drops(0, 3, 0), 100);
        due.is("11 others stay", x.drops(0, 0, 0), 0);
        for (int i = 0; i < 9; i++) {
            x.weep(0, 99);
        }
        due.is("11 to the full", x.weep(0, 99), 999);
        due.is("11 nobody", x.weep(1, 1), NONE);
        due.is("11 drops", x.weep(0, 0), NONE);
        due.is("11 drops", x.weep(0, 100), NONE);
        due.is("11 steps", x.about(3), 12);
    }

    private static void promise12Wash() {
        ThimbleLaw x = withOne(0, 0, 0);
        for (int i = 0; i < 3; i++) {
            x.deed(0, 1, 99);
            x.weep(0, 50);
        }
        due.is("12 more than tears", x.wash(0, 1, 151), NONE);
        due.is("12 as many, above 99", x.wash(0, 1, 150), 147);
        due.is("12 tears less", x.drops(0, 3, 0), 0);
        due.is("12 no tears", x.wash(0, 1, 1), NONE);
        x.weep(0, 5);
        x.deed(0, 0, 3);
        due.is("12 more than drops", x.wash(0, 0, 4), NONE);
        due.is("12 all drops", x.wash(0, 0, 3), 0);
        due.is("12 nothing", x.wash(0, 1, 0), NONE);
        due.is("12 below", x.wash(0, 1, -1), NONE);
        due.is("12 by tears of tears", x.wash(0, 3, 1), NONE);
        due.is("12 nobody", x.wash(1, 1, 1), NONE);
        due.is("12 steps", x.about(3), 10);
    }

    private static void promise13Pour() {
        ThimbleLaw x = withOne(0, 0, 30);
        x.deed(0, 2, 45);
        due.is("13 over: 45 less 20", x.pour(0, 2), 25);
        due.is("13 X", x.is(2), 356);
        due.is("13 coins", x.of(0, 2), 5);
        due.is("13 drops", x.drops(0, 2, 0), 0);
        due.is("13 not over", x.pour(0, 2), NONE);
        due.is("13 X", x.is(2), 16781);
        x.deed(0, 2, 45);
        due.is("13 coins at most", x.pour(0, 2), 5);
        x.deed(0, 2, 45);
        due.is("13 a fine of nothing", x.pour(0, 2), 0);
        due.is("13 written down too", x.book(NONE, 0), 3);
        due.is("13 how much", x.book(1, 3), 5);
        due.is("13 nobody", x.pour(1, 0), -2);
        due.is("13 tears", x.pour(0, 3), -2);
        due.is("13 kind", x.pour(0, -1), -2);
        due.is("13 steps", x.about(3), 7);
    }

    private static void promise13PourErring() {
        ThimbleLaw x = withOne(0, 0, 50);
        Due.read(x, "errs 10;fine 7;");
        x.by(0);
        x.deed(0, 0, 10);
        due.is("13 told over wrongly", x.pour(0, 0), 7);
        due.is("13 drops", x.drops(0, 0, 0), 0);
        x.deed(0, 2, 21);
        due.is("13 told not over wrongly", x.pour(0, 2), NONE);
        due.is("13 drops stay", x.drops(0, 2, 0), 21);
        // The draw is X mod 10 ahead of its change: of 157 it is 7, of 356 it is 6.
        ThimbleLaw y = withOne(0, 0, 50);
        Due.read(y, "errs 7;fine 1;");
        y.by(0);
        due.is("13 7 is not below 7", y.pour(0, 0), NONE);
        due.is("13 6 is below 7", y.pour(0, 0), 1);
    }

    private static void promise14Bend() {
        ThimbleLaw x = withOne(0, 7, 0);
        due.is("14 room", x.bend(0), 12);
        due.is("14 room", x.bend(0), 11);
        due.is("14 dent 9", x.bend(0), NONE);
        due.is("14 nobody", x.bend(1), NONE);
        due.is("14 nobody", x.bend(-1), NONE);
        due.is("14 steps", x.about(3), 2);
        ThimbleLaw y = withOne(0, 3, 0);
        y.standard(4);
        due.is("14 1 at least", y.bend(0), 1);
    }

    private static void promise15Shrink() {
        ThimbleLaw x = new ThimbleLaw();
        due.is("15 all of it", x.shrink(20), NONE);
        due.is("15 nothing", x.shrink(0), NONE);
        due.is("15 below", x.shrink(-1), NONE);
        due.is("15 least", x.shrink(1), 19);
        due.is("15 leaves 1", x.shrink(18), 1);
        due.is("15 no more", x.shrink(1), NONE);
        x.standard(99);
        due.is("15 99", x.shrink(99), NONE);
        due.is("15 98", x.shrink(98), 1);
        due.is("15 steps", x.about(3), 3);
    }

    private static void promise16Day() {
        ThimbleLaw x = withOne(1, 0, 0);
        x.one(0, 0, 0);
        x.deed(0, 0, 10);
        x.deed(1, 2, 10);
        x.weep(1, 2);
        due.is("16 days", x.day(3), 3);
        due.is("16 wood", x.drops(0, 0, 0), 1);
        due.is("16 silver", x.drops(1, 2, 0), 7);
        due.is("16 tears too", x.drops(1, 3, 0), 0);
        due.is("16 each a step", x.about(3), 6);
        due.is("16 least", x.day(0), NONE);
        due.is("16 most", x.day(61), NONE);
        for (int i = 0; i < 166; i++) {
            x.day(60);
        }
        due.is("16 at", x.is(0), 9963);
        due.is("16 beyond", x.day(37), NONE);
        due.is("16 nothing done", x.is(0), 9963);
        due.is("16 to the end", x.day(36), 9999);
        due.is("16 none", x.day(1), NONE);
        ThimbleLaw y = withOne(0, 0, 0);
        Due.read(y, "dries drops/2+day;");
        y.by(0);
        y.deed(0, 0, 99);
        y.day(2);
        due.is("16 by law, as all is then", y.drops(0, 0, 0), 24);
    }

    private static void promise17Played() {
        ThimbleLaw x = new ThimbleLaw();
        due.is("17 not there", x.played(0), -2);
        Due.read(x, "one 1 dent 2 coins 30;dries 9;brim 0 of 1;standard 50;do 3 of 1 by 0;weep 2 by 0;"
            + "wash 1 of 1 by 0;pour 0 of 1;bend 0;shrink 4;day 1;pour 0 of 0;");
        due.is("17 all", x.played(0), NONE);
        due.is("17 below", x.played(-1), -2);
        due.is("17 above", x.played(1), -2);
        due.is("17 one", x.of(0, 0), 1);
        due.is("17 dent", x.of(0, 1), 3);
        due.is("17 fined", x.of(0, 2), 28);
        due.is("17 brim", x.is(4), 0);
        due.is("17 standard", x.is(1), 46);
        due.is("17 day", x.is(0), 1);
        due.is("17 its laws don't rule", x.about(2), NONE);
        due.is("17 steps", x.about(3), 8);
        due.is("17 once more", x.played(0), NONE);
        due.is("17 told again", x.about(0), 2);
        promise17Stopped("bend 5;", 0);
        promise17Stopped("bend 0;do 1 of 0 by 1;", 1);
        promise17Stopped("errs 1;weep 1 by 1;", 1);
        promise17Stopped("wash 1 of 0 by 0;", 0);
        promise17Stopped("pour 1 of 0;", 0);
        promise17Stopped("shrink 20;", 0);
        promise17Stopped("shrink 99;", 0);
        promise17Stopped("one 0 dent 0 coins 0;one 0 dent 0 coins 0;one 0 dent 0 coins 0;one 0 dent 0 coins 0;"
            + "one 0 dent 0 coins 0;one 0 dent 0 coins 0;", 5);
        ThimbleLaw y = new ThimbleLaw();
        Due.read(y, "day 39;brim 1 of 0;day 2;brim 9 of 0;");
        for (int i = 0; i < 166; i++) {
            y.day(60);
        }
        due.is("17 of so many days those that can", y.played(0), 2);
        due.is("17 days", y.is(0), 9999);
        due.is("17 what was done stays", y.is(3), 1);
    }

    private static void promise17Stopped(String text, int clause) {
        ThimbleLaw x = withOne(0, 0, 0);
        Due.read(x, text);
        due.is("17 " + text, x.played(0), clause);
    }

    private static void promise18Centuries() {
        ThimbleLaw x = new ThimbleLaw();
        due.is("18 seed below", x.centuries(-1, 1), NONE);
        due.is("18 seed above", x.centuries(10000, 1), NONE);
        due.is("18 none", x.centuries(0, 0), NONE);
        due.is("18 too many", x.centuries(0, 41), NONE);
        due.is("18 no step", x.about(3), 0);
        due.is("18 nobody: days alone", x.centuries(0, 2), 1);
        due.is("18 X", x.is(2), 16781);
        due.is("18 one step", x.about(3), 1);
        ThimbleLaw y = withOne(0, 0, 99);
        y.one(2, 0, 50);
        // x 159 (mod 7 is 5, mod 4 is 3: no dent), then 1134: 0, of one 0, KIND 0, 1 and 24 drops.
        due.is("18", y.centuries(1, 2), 0);
        due.is("18 done", y.drops(0, 0, 0), 25);
        due.is("18 dent", y.of(1, 1), 0);
        y.undo();
        due.is("18 taken back whole", y.drops(0, 0, 0), 0);
        due.is("18 X too", y.is(2), 157);
        due.is("18 forty", y.centuries(9999, 40) >= 0, true);
    }

    private static void promise19Undo() {
        ThimbleLaw x = withOne(0, 4, 100);
        due.is("19 none", x.undo(), NONE);
        x.deed(0, 2, 60);
        x.bend(0);
        x.pour(0, 2);
        x.one(2, 5, 6);
        x.shrink(3);
        x.day(2);
        x.brim(0, 7);
        x.deed(1, 0, 9);
        x.bend(1);
        due.is("19 deed and dent of 1", x.undo(), 7);
        due.is("19", x.undo(), 6);
        due.is("19 drops", x.drops(1, 0, 0), 0);
        due.is("19 a day each", x.undo(), 5);
        due.is("19 day", x.is(0), 1);
        due.is("19", x.undo(), 4);
        due.is("19 shrunk yet", x.is(1), 17);
        due.is("19", x.undo(), 3);
        due.is("19 standard", x.is(1), 20);
        due.is("19 coins", x.of(0, 2), 55);
        due.is("19 pouring", x.undo(), 2);
        due.is("19 coins", x.of(0, 2), 100);
        due.is("19 drops", x.drops(0, 2, 0), 60);
        due.is("19 X", x.is(2), 157);
        due.is("19 book", x.book(NONE, 0), 0);
        due.is("19 dent", x.undo(), 1);
        due.is("19 dent", x.of(0, 1), 4);
        due.is("19 deed", x.undo(), 0);
        due.is("19 told since stays", x.about(0), 2);
        due.is("19 as told", x.of(1, 1), 5);
        due.is("19 as told", x.of(1, 2), 6);
        due.is("19 brims stay", x.is(3), 7);
    }

    private static void promise19UndoBeyondThirty() {
        ThimbleLaw x = withOne(0, 0, 0);
        for (int i = 0; i < 40; i++) {
            x.deed(0, 0, 1);
        }
        due.is("19 thirty", x.about(3), 30);
        for (int i = 29; i >= 0; i--) {
            due.is("19 yet", x.undo(), i);
        }
        due.is("19 no more", x.undo(), NONE);
        due.is("19 ten stay", x.drops(0, 0, 0), 10);
        // The eldest fines come back with the step that pushed them out.
        ThimbleLaw y = withOne(0, 0, 9999);
        Due.read(y, "errs 0;fine day;");
        y.by(0);
        y.brim(2, 0);
        for (int i = 0; i < 31; i++) {
            y.deed(0, 2, 9);
            y.day(1);
            y.pour(0, 2);
        }
        due.is("19 latest thirty", y.book(NONE, 0), 30);
        due.is("19 eldest", y.book(0, 3), 2);
        y.undo();
        due.is("19 thirty", y.book(NONE, 0), 30);
        due.is("19 eldest is back", y.book(0, 3), 1);
        due.is("19 latest", y.book(29, 3), 30);
    }
}
