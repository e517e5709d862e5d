import java.util.ArrayList;
import java.util.List;

/** What can be seen of a run of calls: each way of looking has an object of its own, led through the run. */
final class Look {
    private interface Eye {
        void look(Look at);
    }

    private static final Eye[] EYES = {
        Look::now, Look::book, Look::told, Look::tape, Look::steps, Look::image, Look::texts, Look::ways,
        look -> look.stepsOf(0), look -> look.stepsOf(1), look -> look.stepsOf(2), look -> look.stepsOf(3),
        look -> look.stepsOf(4), look -> look.stepsOf(5)
    };

    private final Run run;
    private final List<String> seen;

    private Look(List<String> lines, List<String> seen) {
        this.run = new Run(lines);
        this.seen = seen;
    }

    static List<String> at(List<String> lines) {
        List<String> seen = new ArrayList<>();
        for (Eye eye : EYES) {
            seen.add("--");
            eye.look(new Look(lines, seen));
        }
        return seen;
    }

    /** The first that is not alike, or null. */
    static String unlike(List<String> first, List<String> second) {
        for (int i = 0; i < Math.max(first.size(), second.size()); i++) {
            String one = i < first.size() ? first.get(i) : "nothing";
            String other = i < second.size() ? second.get(i) : "nothing";
            if (!one.equals(other)) {
                return one + " became " + other;
            }
        }
        return null;
    }

    private long see(String call) {
        long answer = run.call(call);
        seen.add(call + " = " + answer);
        return answer;
    }

    private void seeEach(String name, int from, int to) {
        for (int i = from; i <= to; i++) {
            see(name + "(" + i + ")");
        }
    }

    private void now() {
        seeEach("is", 0, 5);
        seeEach("about", 0, 7);
        seeEach("fault", 0, 1);
        seeEach("sober", 0, 3);
        seeEach("fined", -1, 5);
        seeEach("fines", 0, 2);
        see("heaviest()");
        see("worst()");
        for (int one = 0; one < 6; one++) {
            for (int what = 0; what <= 4; what++) {
                see("of(" + one + ", " + what + ")");
            }
            dropsOf(one, 0, 3);
        }
    }

    private void dropsOf(int one, int from, int to) {
        for (int kind = 0; kind <= 3; kind++) {
            for (int what = from; what <= to; what++) {
                see("drops(" + one + ", " + kind + ", " + what + ")");
            }
        }
    }

    private void book() {
        long count = see("book(-1, 0)");
        for (int i = 0; i <= count; i++) {
            for (int what = 0; what <= 3; what++) {
                see("book(" + i + ", " + what + ")");
            }
        }
    }

    private void told() {
        seeEach("within", 0, 5);
        seeEach("moreDents", 0, 5);
        seeEach("round", -1, 5);
        seeEach("shrunk", 0, 2);
        see("wouldTell()");
        see("whose()");
        for (int kind = 0; kind <= 2; kind++) {
            see("game(" + kind + ", false)");
            see("game(" + kind + ", true)");
        }
        // Other BRIMS show other sets of the DEEDS, and so each of them.
        for (int thimbles = 0; thimbles <= 9; thimbles++) {
            for (int kind = 0; kind <= 2; kind++) {
                see("brim(" + kind + ", " + thimbles + ")");
            }
            see("within(0)");
            see("within(1)");
        }
    }

    /** The bytes on the tape show as the TEXT that they are, by THE IMAGE where there are four TEXTS. */
    private void tape() {
        see("one(1, 2, 50)");
        readAndRule();
        see("back()");
        see("one(1, 2, 50)");
        readAndRule();
    }

    private void readAndRule() {
        see("text()");
        seeEach("fault", 0, 1);
        see("about(7)");
        see("by(" + (see("about(1)") - 1) + ")");
        dropsOf(0, 1, 3);
    }

    private void steps() {
        for (int i = 0; i <= 30; i++) {
            long left = see("undo()");
            seeEach("is", 0, 2);
            see("book(-1, 0)");
            see("fined(-1)");
            if (left <= 0) {
                break;
            }
        }
    }

    private void stepsOf(int one) {
        for (int i = 0; i <= 30; i++) {
            long left = see("undo()");
            see("of(" + one + ", 1)");
            see("of(" + one + ", 2)");
            dropsOf(one, 0, 0);
            if (left <= 0) {
                break;
            }
        }
    }

    /** Of each two houses: all other ways are told so that the round goes by their way. */
    private void ways() {
        int people = (int) run.call("about(0)");
        run.call("image()");
        for (int one = 1; one < people; one++) {
            for (int other = 0; other < one; other++) {
                run.call("back()");
                int third = 0;
                while (third == one || third == other) {
                    third++;
                }
                for (int i = 1; i < people; i++) {
                    for (int j = 0; j < i; j++) {
                        boolean far = (i == one || j == one) && i != third && j != third;
                        if (i != one || j != other) {
                            run.call("way(" + i + ", " + j + ", " + (far ? 99 : 1) + ")");
                        }
                    }
                }
                seen.add("way from " + one + " to " + other + ": " + run.call("round(-1)"));
            }
        }
    }

    private void image() {
        see("back()");
        now();
    }

    private void texts() {
        for (int text = 0; text <= 3; text++) {
            see("by(" + text + ")");
            dropsOf(0, 1, 3);
            dropsOf(1, 1, 3);
        }
        for (int text = 0; text <= 3; text++) {
            see("played(" + text + ")");
            seeEach("is", 0, 5);
            see("about(0)");
            dropsOf(0, 0, 0);
        }
    }
}
