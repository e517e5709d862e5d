import java.util.ArrayList;
import java.util.Arrays;
import java.util.List;

/** Runs of calls that tests begin with. */
final class Lives {

    private Lives() {
    }

    /** Something of everything: five people, two TEXTS (one rules), fines, STEPS, an IMAGE that is left, a tape. */
    static List<String> rich(String... more) {
        return join(List.of(
            "one(0, 0, 100)", "one(1, 5, 10)", "one(2, 9, 9999)", "one(1, 0, 0)", "one(0, 3, 50)",
            "brim(0, 4)", "standard(30)",
            "way(0, 1, 5)", "way(1, 2, 7)", "way(2, 3, 2)", "way(3, 4, 9)", "way(0, 4, 4)",
            "costs(0, 2)", "costs(1, 3)",
            "plan(0, 10)", "plan(1, 99)", "plan(2, 1)",
            "year(100, 5)", "year(90, 4)",
            "dried(0, 0, 1)", "dried(1, 3, 3)",
            "tape dries 2+kind;errs 3;fine 7;", "text()",
            "tape one 1 dent 2 coins 3;do 5 of 1 by 0;day 2;", "text()",
            "deed(0, 0, 99)", "deed(1, 1, 60)", "deed(2, 2, 25)", "weep(0, 40)", "weep(1, 20)",
            "pour(1, 1)", "day(2)", "wash(0, 0, 3)", "bend(1)",
            "image()",
            "by(0)", "deed(3, 2, 70)", "shrink(3)", "pour(3, 2)", "day(1)", "centuries(5, 7)", "deed(0, 0, 50)",
            "tape dries (;", "text()", "tape dries 7;"), more);
    }

    /** Six people, four TEXTS, three hundred bytes, eight of all that is told, thirty fines and STEPS, DAY 9999. */
    static List<String> full(String... more) {
        List<String> all = new ArrayList<>(List.of(
            "one(0, 0, 9999)", "one(1, 9, 1)", "one(2, 0, 0)", "one(0, 1, 2)", "one(1, 2, 3)", "one(2, 3, 4)",
            "tape errs 0;" + "do 99 of 2 by 0;pour 0 of 2;".repeat(10), "text()",
            "tape " + "day 60;".repeat(24), "text()",
            "tape ", "text()", "tape dries 0;", "text()",
            "by(0)", "played(0)", "played(0)", "played(0)", "by(3)"));
        all.addAll(Edges.times(7, "played(1)"));
        all.addAll(Edges.times(8, "plan(1, 9)"));
        all.addAll(Edges.times(8, "year(100, 5)"));
        all.addAll(Edges.times(8, "dried(0, 0, 0)"));
        all.addAll(List.of("deed(0, 1, 30)", "weep(1, 99)", "deed(1, 0, 5)"));
        all.addAll(Edges.times(15, "feed(0, 0, 0, 0, 0)"));
        all.add("image()");
        return join(all, more);
    }

    /** At this DAY (5 at least, 9999 at most), with one of silver; TEXT 0 is many days, none rules. */
    static List<String> atDay(int day, String... more) {
        List<String> all = new ArrayList<>(List.of("tape " + "day 60;".repeat(24), "text()", "one(0, 0, 100)"));
        int left = day;
        for (; left >= 1440; left -= 1440) {
            all.add("played(0)");
        }
        for (; left > 0; left -= 60) {
            all.add("day(" + Math.min(60, left) + ")");
        }
        return join(all, more);
    }

    /** One of silver with 100 coins; TEXT 0 is this, and rules. */
    static List<String> by(String text, String... more) {
        return join(List.of("one(0, 0, 100)", "tape " + text, "text()", "by(0)"), more);
    }

    /** Fines of 1, 2, .. n coins for one with 9999, by a funnel that doesn't err. */
    static List<String> fines(int n) {
        List<String> all = new ArrayList<>(List.of("one(0, 0, 9999)", "tape errs 0;", "text()", "by(0)"));
        for (int i = 1; i <= n; i++) {
            all.add("deed(0, 2, " + (20 + i) + ")");
            all.add("pour(0, 2)");
        }
        return all;
    }

    static List<String> join(List<String> first, String... more) {
        return join(first, Arrays.asList(more));
    }

    static List<String> join(List<String> first, List<String> more) {
        List<String> all = new ArrayList<>(first);
        all.addAll(more);
        return all;
    }
}
