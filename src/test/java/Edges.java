import java.util.ArrayList;
import java.util.Collections;
import java.util.List;

/** Runs a test for each sentence that names an edge; a test's name is the sentence's place and its words. */
final class Edges {
    private final Document document;
    private String name = "";
    private int tests = 0;
    private int broken = 0;
    private int insides = 0;
    private int outsides = 0;
    private boolean holds = true;
    private List<String> lines = new ArrayList<>();
    private Run run = new Run(List.of());
    private List<String> before = null;

    Edges(Document document) {
        this.document = document;
    }

    /** The body asks what is just inside the edge (in) and what is just outside of it (out, refused). */
    void test(String part, String words, Runnable body) {
        name = part + ": \"" + words + "\"";
        holds = true;
        insides = 0;
        outsides = 0;
        life();
        check(document.says(part, words), "the document does not say so");
        try {
            body.run();
        } catch (IllegalStateException | IllegalArgumentException e) {
            check(false, e.getMessage());
        }
        check(insides > 0, "nothing inside the edge is asked");
        check(outsides > 0, "nothing outside the edge is asked");
        tests++;
        broken += holds ? 0 : 1;
        if (holds) {
            System.out.println("holds: " + name);
        }
    }

    private void check(boolean right, String what) {
        if (!right) {
            holds = false;
            System.out.println("BROKEN: " + name + ": " + what);
        }
    }

    /** A new object, and what is done with it first. */
    void life(String... calls) {
        life(List.of(calls));
    }

    void life(List<String> calls) {
        lines = new ArrayList<>();
        run = new Run(List.of());
        before = null;
        then(calls);
    }

    void then(String... calls) {
        then(List.of(calls));
    }

    void then(List<String> calls) {
        for (String call : calls) {
            done(call);
        }
    }

    private long done(String call) {
        lines.add(call);
        before = null;
        return run.call(call);
    }

    static List<String> times(int n, String call) {
        return Collections.nCopies(n, call);
    }

    void in(String call, long due) {
        inside(call, done(call), due);
    }

    void out(String call, long due) {
        outside(call, done(call), due);
    }

    void inside(String what, long got, long due) {
        insides++;
        answers(what, got, due);
    }

    void outside(String what, long got, long due) {
        outsides++;
        answers(what, got, due);
    }

    long answer(String call) {
        return done(call);
    }

    private void answers(String call, long got, long due) {
        check(got == due, call + " answered " + got + ", due is " + due);
    }

    /** Each of the calls has this answer, and nothing that can be seen is another by it. */
    void refused(long due, String... calls) {
        for (String call : calls) {
            outsides++;
            unchanged(call, due);
        }
    }

    /** The call is refused with each of these for its %, and with the least and the greatest int. */
    void others(long due, String call, int... values) {
        for (int value : values) {
            refused(due, call.replace("%", "" + value));
        }
        refused(due, call.replace("%", "MIN"), call.replace("%", "MAX"));
    }

    /** A call inside the edge that changes nothing either. */
    void asked(String call, long due) {
        insides++;
        unchanged(call, due);
    }

    private void unchanged(String call, long due) {
        if (before == null) {
            before = Look.at(lines);
        }
        answers(call, run.call(call), due);
        List<String> with = new ArrayList<>(lines);
        with.add(call);
        String unlike = Look.unlike(before, Look.at(with));
        check(unlike == null, "by " + call + " something changed: " + unlike);
    }

    /** Whether all that can be seen of the run so far is as behind these calls. */
    void looksAs(List<String> calls) {
        String unlike = Look.unlike(Look.at(calls), Look.at(lines));
        check(unlike == null, "it is not as behind the other calls: " + unlike);
    }

    boolean end(String title) {
        System.out.println(title + ": " + (tests - broken) + " of " + tests + " sentences hold");
        return broken == 0 && tests > 0;
    }
}
