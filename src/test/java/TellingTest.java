/** Promises 1 to 9: a new object, people, brims, the standard, the tape and the texts. */
final class TellingTest {
    private static final int NONE = ThimbleLaw.NONE;
    private static final Due due = new Due();

    public static void main(String[] args) {
        promise1NewObject();
        promise2One();
        promise3Brim();
        promise4Standard();
        promise5Feed();
        promise6End();
        promise7Text();
        promise8Fault();
        promise9By();
        due.end("TellingTest");
    }

    private static void promise1NewObject() {
        ThimbleLaw x = new ThimbleLaw();
        int[] firstAbout = {0, 0, NONE, 0, 0, 0, 0, 0};
        for (int i = 0; i < firstAbout.length; i++) {
            due.is("1 about(" + i + ")", x.about(i), firstAbout[i]);
        }
        int[] firstIs = {0, 20, 157, 3, 2, 1};
        for (int i = 0; i < firstIs.length; i++) {
            due.is("1 is(" + i + ")", x.is(i), firstIs[i]);
        }
        due.is("1 book", x.book(NONE, 0), 0);
        x.one(0, 0, 5);
        x.day(3);
        x.brim(0, 9);
        due.is("1 back to nobody", x.back(), 0);
        due.is("1 people then", x.about(0), 0);
        due.is("1 brim then", x.is(3), 3);
    }

    private static void promise2One() {
        ThimbleLaw x = new ThimbleLaw();
        due.is("2 stuff below", x.one(-1, 0, 0), NONE);
        due.is("2 stuff above", x.one(3, 0, 0), NONE);
        due.is("2 dent below", x.one(0, -1, 0), NONE);
        due.is("2 dent above", x.one(0, 10, 0), NONE);
        due.is("2 coins below", x.one(0, 0, -1), NONE);
        due.is("2 coins above", x.one(0, 0, 10000), NONE);
        due.is("2 first", x.one(2, 9, 9999), 0);
        for (int i = 1; i < 6; i++) {
            due.is("2 next", x.one(i % 3, i, i), i);
        }
        due.is("2 seventh", x.one(0, 0, 0), NONE);
        due.is("2 how many", x.about(0), 6);
        due.is("2 stuff", x.of(0, 0), 2);
        due.is("2 dent", x.of(0, 1), 9);
        due.is("2 coins", x.of(0, 2), 9999);
        due.is("2 drops at first", x.drops(5, 3, 0), 0);
        due.is("2 no step", x.about(3), 0);
    }

    private static void promise3Brim() {
        ThimbleLaw x = new ThimbleLaw();
        due.is("3 least", x.brim(0, 0), true);
        due.is("3 most", x.brim(2, 9), true);
        due.is("3 is", x.is(3), 0);
        due.is("3 is", x.is(4), 2);
        due.is("3 is", x.is(5), 9);
        due.is("3 kind below", x.brim(-1, 1), false);
        due.is("3 kind of tears", x.brim(3, 1), false);
        due.is("3 below", x.brim(0, -1), false);
        due.is("3 above", x.brim(0, 10), false);
        due.is("3 no step", x.undo(), NONE);
    }

    private static void promise4Standard() {
        ThimbleLaw x = new ThimbleLaw();
        due.is("4 least", x.standard(1), true);
        due.is("4 is", x.is(1), 1);
        due.is("4 most", x.standard(99), true);
        due.is("4 below", x.standard(0), false);
        due.is("4 above", x.standard(100), false);
        due.is("4 is", x.is(1), 99);
        due.is("4 no step", x.undo(), NONE);
        x.shrink(9);
        x.shrink(10);
        x.standard(50);
        x.shrink(5);
        due.is("4 shrunk", x.is(1), 45);
        x.undo();
        due.is("4 told since", x.is(1), 50);
        x.undo();
        x.undo();
        due.is("4 told in all steps", x.is(1), 50);
    }

    private static void promise5Feed() {
        ThimbleLaw x = new ThimbleLaw();
        for (int i = 1; i <= 15; i++) {
            due.is("5 feed", x.feed(0, 0, 0, 0, 0), 20 * i);
        }
        due.is("5 beyond 300", x.feed(0, 0, 0, 0, 0), NONE);
        due.is("5 stays", x.about(7), 300);
        x.end(281);
        due.is("5 part would fit", x.feed(0, 0, 0, 0, 0), NONE);
        due.is("5 none came", x.about(7), 281);
        x.end(280);
        due.is("5 fits again", x.feed(0, 0, 0, 0, 0), 300);
        // "bend 0;" and a byte above 127 as the eighth: the highest byte of a comes first.
        x.end(0);
        x.feed(0x62656e64, 0x20303bff, 0, 0, 0);
        due.is("5 fault", x.text(), NONE);
        due.is("5 place", x.fault(1), 7);
        x.feed(0x62656e64, 0x20303bff, 0, 0, 0);
        x.end(7);
        due.is("5 no fault", x.text(), 0);
    }

    private static void promise6End() {
        ThimbleLaw x = new ThimbleLaw();
        due.is("6 empty", x.end(0), 0);
        due.is("6 not so many", x.end(1), NONE);
        x.feed(1, 2, 3, 4, 5);
        due.is("6 below", x.end(-1), NONE);
        due.is("6 above", x.end(21), NONE);
        due.is("6 nothing done", x.about(7), 20);
        due.is("6 all", x.end(20), 20);
        due.is("6 some", x.end(3), 3);
        due.is("6 not again", x.end(4), NONE);
    }

    private static void promise7Text() {
        ThimbleLaw x = new ThimbleLaw();
        due.is("7 empty", x.text(), 0);
        due.is("7 a fault", Due.read(x, "bend"), NONE);
        due.is("7 tape empty", x.about(7), 0);
        due.is("7 next", Due.read(x, "bend 0;"), 1);
        due.is("7 tape empty", x.about(7), 0);
        due.is("7 blanks", Due.read(x, " \n \n"), 2);
        due.is("7 last", Due.read(x, "errs 1;"), 3);
        due.is("7 four", x.about(1), 4);
        due.is("7 fifth", Due.read(x, "bend"), NONE);
        due.is("7 tape stays", x.about(7), 4);
        due.is("7 not read", x.fault(0), 0);
    }

    private static void promise8Fault() {
        ThimbleLaw x = new ThimbleLaw();
        due.is("8 ahead", x.fault(0), NONE);
        due.is("8 ahead", x.fault(1), NONE);
        x.text();
        due.is("8 without", x.fault(0), 0);
        due.is("8 without", x.fault(1), NONE);
        Due.read(x, "bend 6;");
        due.is("8 with", x.fault(0), 2);
        due.is("8 with", x.fault(1), 5);
        due.is("8 others", x.fault(2), NONE);
        due.is("8 others", x.fault(-1), NONE);
        x.back();
        due.is("8 not of the image", x.fault(0), 2);
    }

    private static void promise9By() {
        ThimbleLaw x = new ThimbleLaw();
        x.one(1, 0, 0);
        due.is("9 none", x.by(NONE), true);
        due.is("9 not there", x.by(0), false);
        Due.read(x, "dries 7;");
        due.is("9 not by reading", x.drops(0, 0, 1), 3);
        due.is("9 there", x.by(0), true);
        due.is("9 told", x.about(2), 0);
        due.is("9 rules", x.drops(0, 0, 1), 7);
        due.is("9 others", x.by(1), false);
        due.is("9 others", x.by(-2), false);
        due.is("9 stays", x.about(2), 0);
        due.is("9 none again", x.by(NONE), true);
        due.is("9 without", x.drops(0, 0, 1), 3);
    }
}
