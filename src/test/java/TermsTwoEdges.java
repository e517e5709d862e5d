import java.util.List;

/** Part II of "Terms": what a TEXT may say, its FAULTS, and how it rules. */
final class TermsTwoEdges {
    private static final int NONE = ThimbleLaw.NONE;
    private static final String PART = "Terms II";

    private final Edges e;

    private TermsTwoEdges(Edges e) {
        this.e = e;
    }

    static void all(Edges e) {
        TermsTwoEdges tests = new TermsTwoEdges(e);
        tests.tapes();
        tests.tokens();
        tests.signs();
        tests.clauses();
        tests.names();
        tests.asking();
        tests.choosing();
        tests.sums();
        tests.clipping();
        tests.faults();
        tests.numbers();
        tests.depth();
        tests.laterFaults();
        tests.ruling();
        tests.playing();
        tests.playedToItsEnd();
    }

    private void good(String text) {
        e.life("tape " + text);
        e.in("text()", 0);
        e.in("fault(0)", 0);
        e.in("fault(1)", NONE);
    }

    private void bad(String text, int fault, int place) {
        e.life("tape " + text);
        e.out("text()", NONE);
        e.out("fault(0)", fault);
        e.out("fault(1)", place);
        e.out("about(1)", 0);
    }

    private long worth(String sum) {
        e.life(Lives.by("fine " + sum + ";"));
        return e.answer("drops(0, 0, 3)");
    }

    private void inside(String sum, long due) {
        e.inside(sum, worth(sum), due);
    }

    private void outside(String sum, long due) {
        e.outside(sum, worth(sum), due);
    }

    private void tapes() {
        e.test(PART, "TEXTS 0 .. 3: of up to 300 bytes.", () -> {
            for (int text = 0; text <= 3; text++) {
                e.then("tape dries " + text + ";");
                e.in("text()", text);
            }
            e.then("tape dries 4;");
            e.refused(NONE, "text()");
            e.refused(0, "by(4)");
            e.refused(-2, "played(4)");
            e.life(Lives.full());
            e.refused(NONE, "text()");
            good("dries 1" + " ".repeat(292) + ";");
            e.life("tape " + " ".repeat(300));
            e.in("about(7)", 300);
            e.refused(NONE, "feed(0, 0, 0, 0, 0)", "end(301)");
            bad("dries 1" + " ".repeat(293), 1, 300);
        });
    }

    private void tokens() {
        e.test(PART, "TOKENS, blanks (32, 10) aside", () -> {
            good(" \n dries\n\n1 \n;\n ");
            good("");
            good("\n".repeat(300));
            for (int sign : new int[] {0, 9, 11, 13, 31, 33, 127, 128, 160, 255}) {
                bad("dries 1" + (char) sign + ";", 1, 7);
                bad(" " + (char) sign, 1, 1);
            }
        });
        e.test(PART, "letters a .. z, A .. Z one behind the other (one TOKEN)", () -> {
            good("dries1;");
            good("dries 1;errs 1;");
            for (String letter : List.of("a", "z", "A", "Z")) {
                bad("dries day" + letter + ";", 1, 6);
            }
            for (String sign : List.of("@", "[", "`", "{")) {
                bad("dries day" + sign + ";", 1, 9);
            }
            bad("Dries 1;", 1, 0);
            bad("dri es 1;", 1, 0);
            bad("driesday;", 1, 0);
        });
        e.test(PART, "digits likewise (NUMBERS, 0 .. 9999)", () -> {
            good("dries 0;");
            good("dries 9999;");
            good("dries 00009999;");
            bad("dries 10000;", 2, 6);
            bad("dries 00010000;", 2, 6);
            bad("dries 4294967296;", 2, 6);
            bad("dries 99999999999999999999;", 2, 6);
            bad("dries 1 2;", 1, 8);
            bad("dries 9:;", 1, 7);
        });
    }

    private void signs() {
        e.test(PART, "<= >= < > = # + - * / ( ) ; (the longest).", () -> {
            inside("if 1<=1 then 5 else 6 end", 5);
            inside("if 1>=1 then 5 else 6 end", 5);
            inside("if 1<1 then 5 else 6 end", 6);
            inside("if 1>1 then 5 else 6 end", 6);
            inside("if 1=1 then 5 else 6 end", 5);
            inside("if 1#1 then 5 else 6 end", 6);
            inside("(1+2*3-4/2)", 5);
            bad("fine if 1< =1 then 5 else 6 end;", 1, 11);
            bad("fine if 1> =1 then 5 else 6 end;", 1, 11);
            bad("fine if 1=<1 then 5 else 6 end;", 1, 10);
            bad("fine if 1<>1 then 5 else 6 end;", 1, 10);
            bad("fine if 1>==1 then 5 else 6 end;", 1, 11);
            bad("fine 1;;", 1, 7);
            bad("fine if 1<=", 1, 11);
            bad("fine (1;;", 1, 7);
            bad("fine 1);", 1, 6);
            bad("fine ?;", 1, 5);
        });
    }

    private void clauses() {
        e.test(PART, "{CLAUSE}, 24 at most:", () -> {
            good("");
            good("day 1;".repeat(23));
            good("day 1;".repeat(24));
            good("dries 1;" + "day 1;".repeat(23));
            bad("day 1;".repeat(25), 6, 144);
            bad("day 1;".repeat(24) + "fine 1;", 6, 144);
            bad("day 1;".repeat(24) + " \n day", 6, 147);
        });
        e.test(PART, "dries SUM ; or errs SUM ; or fine SUM ; (each once)", () -> {
            good("dries 1;errs 1;fine 1;");
            good("fine 1;day 1;errs 1;dries 1;");
            bad("dries 1;dries 1;", 4, 8);
            bad("errs 1;day 1;errs 1;", 4, 13);
            bad("fine 1;dries 1;fine 1;", 4, 15);
        });
    }

    private void names() {
        e.test(PART, "NAMES: day, who (its number), stuff, dent, room, kind, drops (of that KIND) in all; coins in errs, fine; "
            + "tears in errs, fine.", () -> {
            String[] names = {"day", "who", "stuff", "dent", "room", "kind", "drops", "coins", "tears"};
            int[] values = {3, 1, 2, 9, 11, 1, 12, 77, 5};
            for (int i = 0; i < names.length; i++) {
                e.life("one(0, 0, 0)", "one(2, 9, 77)", "day(3)", "deed(1, 1, 12)", "weep(1, 5)",
                    "tape fine " + names[i] + ";", "text()", "by(0)");
                e.in("drops(1, 1, 3)", values[i]);
            }
            good("errs coins;fine coins;");
            good("errs tears;fine tears;");
            good("dries day+who+stuff+dent+room+kind+drops;");
            bad("dries coins;", 5, 6);
            bad("dries 1+tears;", 5, 8);
            bad("fine purse;", 1, 5);
        });
    }

    /** Whether the ASK is so. */
    private void asks(String ask, boolean so) {
        inside("if " + ask + " then 5 else 6 end", so ? 5 : 6);
    }

    private void asking() {
        e.test(PART, "ASK: not ASK, or SUM one of < <= > >= = # (unlike) SUM.", () -> {
            String[] signs = {"<", "<=", ">", ">=", "=", "#"};
            boolean[][] so = {{true, false, false}, {true, true, false}, {false, false, true}, {false, true, true},
                {false, true, false}, {true, false, true}};
            for (int i = 0; i < signs.length; i++) {
                for (int left = 1; left <= 3; left++) {
                    asks(left + signs[i] + "2", so[i][left - 1]);
                    asks("not " + left + signs[i] + "2", !so[i][left - 1]);
                    asks("not not " + left + signs[i] + "2", so[i][left - 1]);
                }
            }
            bad("fine if 1 then 1 else 1 end;", 1, 10);
            bad("fine if 1 less 2 then 1 else 1 end;", 1, 10);
            bad("fine if nothing 1=1 then 1 else 1 end;", 1, 8);
            bad("fine if (1=1) then 1 else 1 end;", 1, 10);
            bad("fine if 1=1=1 then 1 else 1 end;", 1, 11);
        });
        e.test(PART, "EITHER: BOTH {or BOTH}. BOTH: ASK {and ASK}.", () -> {
            String[] sides = {"1=2", "1=1"};
            for (int left = 0; left <= 1; left++) {
                for (int right = 0; right <= 1; right++) {
                    asks(sides[left] + " or " + sides[right], left + right > 0);
                    asks(sides[left] + " and " + sides[right], left + right > 1);
                }
            }
            asks("1=1 or 1=1 and 1=2", true);
            asks("1=2 and 1=2 or 1=1", true);
            asks("not 1=1 or 1=1", true);
            asks("not 1=2 and 1=2", false);
            bad("fine if 1=1 or then 1 else 1 end;", 1, 15);
            bad("fine if and 1=1 then 1 else 1 end;", 1, 8);
        });
    }

    private void choosing() {
        e.test(PART, "or and and look at both sides always, of if just the SUM that is chosen is asked.", () -> {
            inside("if 1=1 or 1/0=1 then 5 else 6 end", 5);
            inside("1+if 1=1 then 5 else 6/0 end*2+3", 14);
            inside("1+if 1=2 then 9999*9999 else 6 end*2+3", 16);
            inside("if if 1=2 then 1 else 2 end=2 then if 1=1 then 7 else 8 end else 9 end+if 1=2 then 10 else 20 end", 27);
            outside("if 1=2 then 7 else if 1=2 then 8 else 9 end end-1", 8);
            bad("fine if 1=1 then 1;", 1, 18);
            bad("fine if 1=1 then 1 end;", 1, 19);
            bad("fine if 1=1 then 1 else 10000 end;", 2, 24);
        });
    }

    private void sums() {
        e.test(PART, "above ONE by ONE (the first less the second, 0 at least)", () -> {
            inside("above 5 by 4", 1);
            inside("above 5 by 5", 0);
            outside("10+above 5 by 6", 10);
            outside("10+above 0 by 9999", 10);
            inside("above 0 by -1", 1);
        });
        e.test(PART, "brims ONE (BRIM of the KIND of that number; 0 for others)", () -> {
            inside("brims 0", 3);
            inside("brims 1", 2);
            inside("brims 2", 1);
            outside("10+brims 3", 10);
            outside("10+brims -1", 10);
            outside("10+brims (9999*9999)", 10);
        });
        e.test(PART, "/ cuts towards 0, by 0 it is 0;", () -> {
            inside("7/2", 3);
            inside("10+-7/2", 7);
            inside("10+7/-2", 7);
            inside("5/1", 5);
            outside("10+5/0", 10);
            outside("10+-5/0", 10);
            outside("10+0/0", 10);
        });
    }

    private void clipping() {
        e.test(PART, "what is above 1000000 (below the same less) is that, at each step.", () -> {
            inside("999*1001/1000", 999);
            inside("1000*1000/1000", 1000);
            outside("1001*1000/1000", 1000);
            outside("9999*9999*0+9999*9999/1000", 1000);
            outside("(1000*1000+1-1)/1000", 999);
            inside("2000+(-1000*1000/1000)", 1000);
            outside("2000+(-1001*1000/1000)", 1000);
            outside("2000+(-1000*1000-1+1)/1000", 1001);
            outside("(above (1000*1000) by -1-1)/1000", 999);
        });
    }

    private void faults() {
        e.test(PART, "FAULTS, the first as TOKENS are come to, at the TOKEN's first byte (of the end at the length), of one "
            + "the least:", () -> {
            good("dries 1;");
            bad("dries 10000+10001;", 2, 6);
            bad("dries (;dries 10000;", 1, 7);
            bad("dries 1;\n  dries 2;", 4, 11);
            bad("dries", 1, 5);
            bad("dries 1", 1, 7);
            bad("dries 1 \n", 1, 9);
            // Of one TOKEN: 1 ahead of 2, 1 ahead of 3, 4 ahead of 6, 1 ahead of 6.
            bad("dries 1 10000;", 1, 8);
            bad("dries ((((((((1(", 1, 15);
            bad("dries 1;" + "day 1;".repeat(23) + "dries 1;", 4, 146);
            bad("day 1;".repeat(24) + "10000;", 1, 144);
        });
        e.test(PART, "1 it can't stand there, or is none.", () -> {
            good("one 0 dent 0 coins 0;");
            bad("one 0 coins 0 dent 0;", 1, 6);
            bad("one dent 0 coins 0;", 1, 4);
            bad("pour 0 by 0;", 1, 7);
            bad("do -1 of 0 by 0;", 1, 3);
            bad("dries ;", 1, 6);
            bad("dries nothing;", 1, 6);
            bad("dries 1?;", 1, 7);
            bad("nothing 1;", 1, 0);
            bad(";", 1, 0);
        });
    }

    /** The NUMBER at % may be from least to most. */
    private void range(String clause, int least, int most) {
        int place = clause.indexOf('%');
        good(clause.replace("%", "" + least));
        good(clause.replace("%", "" + most));
        bad(clause.replace("%", "" + (most + 1)), 2, place);
        bad(clause.replace("%", "10000"), 2, place);
        if (least > 0) {
            bad(clause.replace("%", "" + (least - 1)), 2, place);
        }
    }

    private void numbers() {
        e.test(PART, "2 a NUMBER that isn't one of those told (above 9999;", () -> {
            range("dries %;", 0, 9999);
            range("errs 1+(%);", 0, 9999);
            range("fine if %=1 then 1 else 1 end;", 0, 9999);
            range("one 0 dent 0 coins %;", 0, 9999);
        });
        e.test(PART, "STUFF 0 .. 2,", () -> range("one % dent 0 coins 0;", 0, 2));
        e.test(PART, "DENT 0 .. 9,", () -> range("one 0 dent % coins 0;", 0, 9));
        e.test(PART, "thimbles 0 .. 9,", () -> range("brim % of 0;", 0, 9));
        e.test(PART, "KINDS 0 .. 2,", () -> {
            range("brim 0 of %;", 0, 2);
            range("do 1 of % by 0;", 0, 2);
            range("wash 1 of % by 0;", 0, 2);
            range("pour 0 of %;", 0, 2);
        });
        e.test(PART, "THE STANDARD 1 .. 99,", () -> range("standard %;", 1, 99));
        e.test(PART, "DROPS of do, weep, wash, shrink 1 .. 99,", () -> {
            range("do % of 0 by 0;", 1, 99);
            range("weep % by 0;", 1, 99);
            range("wash % of 0 by 0;", 1, 99);
            range("shrink %;", 1, 99);
        });
        e.test(PART, "PEOPLE 0 .. 5,", () -> {
            range("do 1 of 0 by %;", 0, 5);
            range("weep 1 by %;", 0, 5);
            range("wash 1 of 0 by %;", 0, 5);
            range("pour % of 0;", 0, 5);
            range("bend %;", 0, 5);
        });
        e.test(PART, "DAYS 1 .. 60).", () -> range("day %;", 1, 60));
    }

    /** Eight of them may be open around one another; the ninth, at its place, not. */
    private void nested(String opens, String inner, String closes) {
        good("fine " + opens.repeat(8) + inner + closes.repeat(8) + ";");
        bad("fine " + opens.repeat(9) + inner + closes.repeat(9) + ";", 3, 5 + 8 * opens.length());
    }

    private void depth() {
        e.test(PART, "3 the 9th of ( not above brims if and - (of one ONE) that are open around one another (at it; above "
            + "till its second is whole).", () -> {
            nested("(", "1", ")");
            nested("-", "1", "");
            nested("brims ", "1", "");
            nested("above ", "1", " by 1");
            nested("above 1 by ", "1", "");
            nested("if 1=1 then ", "1", " else 1 end");
            nested("if 1=1 then 1 else ", "1", " end");
            nested("if ", "1", "=1 then 1 else 1 end");
            String behind = "1=1 then 1 else 1 end;";
            good("fine if " + "not ".repeat(7) + behind);
            bad("fine if " + "not ".repeat(8) + behind, 3, 36);
            good("fine if " + "not ".repeat(7) + "1=1 and " + "not ".repeat(7) + "1=1 or " + "not ".repeat(7) + behind);
            // What is whole is open no more, and a - between PRODUCTS opens nothing.
            good("fine ((((((((1))))))))+((((((((1))))))));");
            good("fine " + "above 1 by 1-".repeat(12) + "1;");
            good("fine ((((((((1-1-1))))))));");
            bad("fine ((((((((1--1))))))));", 3, 15);
            good("fine (-above brims (1) by if not 1=1 then (1) else -1 end);");
            bad("fine (-above 1 by (if not not 1=brims (1) then 1 else 1 end));", 3, 38);
        });
    }

    private void laterFaults() {
        e.test(PART, "4 dries, errs, fine for the second time (at it).", () -> {
            good("dries 1;errs 1;");
            bad("dries 1; dries", 4, 9);
            bad("errs 1; errs", 4, 8);
            bad("fine 1; fine", 4, 8);
        });
        e.test(PART, "5 a NAME that isn't of that CLAUSE (at it).", () -> {
            good("errs 1+coins+tears;fine 1+coins+tears;");
            bad("dries 1+coins;", 5, 8);
            bad("dries (tears);", 5, 7);
            bad("errs coins;dries drops+coins;", 5, 23);
        });
        e.test(PART, "6 the 25th CLAUSE (at its first TOKEN).", () -> {
            good("bend 0;".repeat(24));
            good("bend 0;".repeat(24) + " \n");
            bad("bend 0;".repeat(24) + " bend 9;", 6, 169);
            bad("bend 0;".repeat(24) + "dries", 6, 168);
        });
    }

    private void ruling() {
        e.test(PART, "THE TEXT (told; at first none) rules.", () -> {
            e.life("one(0, 0, 100)", "tape dries 7;", "text()", "tape dries 9;", "text()");
            e.in("about(2)", NONE);
            e.in("drops(0, 0, 1)", 1);
            e.in("by(0)", 1);
            e.in("drops(0, 0, 1)", 7);
            e.in("by(1)", 1);
            e.in("drops(0, 0, 1)", 9);
            e.refused(0, "by(2)", "by(-2)");
            e.in("by(-1)", 1);
            e.out("drops(0, 0, 1)", 1);
            e.then("tape errs 2;", "text()", "tape dries 13;", "text()", "by(3)");
            e.in("drops(0, 0, 1)", 13);
            e.refused(0, "by(4)");
        });
        e.test(PART, "dries: 0 at least, 99 at most; without: 1, of wood 3.", () -> {
            law("dries 0;", 1, 0, true);
            law("dries 0-1;", 1, 0, false);
            law("dries 99;", 1, 99, true);
            law("dries 100;", 1, 99, false);
            law("errs 5;", 1, 1, true);
            e.then("one(1, 0, 0)", "one(2, 0, 0)");
            e.in("drops(1, 0, 1)", 3);
            e.in("drops(2, 3, 1)", 1);
            e.then("by(-1)");
            e.in("drops(0, 3, 1)", 1);
            e.in("drops(1, 3, 1)", 3);
        });
        e.test(PART, "errs (the odds of 10): 0 at least, 10 at most; without: 1.", () -> {
            law("errs 0;", 2, 0, true);
            law("errs 0-1;", 2, 0, false);
            law("errs 10;", 2, 10, true);
            e.in("pour(0, 0)", 0);
            law("errs 11;", 2, 10, false);
            law("dries 5;", 2, 1, true);
            e.then("by(-1)");
            e.in("drops(0, 0, 2)", 1);
        });
        e.test(PART, "fine: 0 at least, 9999 at most; without: DROPS less BRIM times ROOM (0 at least).", () -> {
            law("fine 0;", 3, 0, true);
            law("fine 0-1;", 3, 0, false);
            law("fine 9999;", 3, 9999, true);
            law("fine 9999+1;", 3, 9999, false);
            law("dries 5;", 3, 0, true);
            e.then("deed(0, 2, 20)");
            e.in("drops(0, 2, 3)", 0);
            e.then("deed(0, 2, 1)");
            e.out("drops(0, 2, 3)", 1);
            e.then("by(-1)");
            e.in("drops(0, 2, 3)", 1);
            e.in("drops(0, 0, 3)", 0);
        });
    }

    private void law(String text, int what, int due, boolean isInside) {
        e.life(Lives.by(text));
        String call = "drops(0, 0, " + what + ")";
        if (isInside) {
            e.in(call, due);
        } else {
            e.out(call, due);
        }
    }

    private void playing() {
        e.test(PART, "PLAYED by a TEXT: its CLAUSES but laws, in their order, as by hand; one that can't be ends it", () -> {
            List<String> byHand = List.of("one(0, 0, 9)", "one(2, 3, 4)", "brim(2, 9)", "standard(50)", "deed(0, 2, 99)",
                "weep(0, 6)", "wash(0, 2, 6)", "pour(0, 2)", "bend(1)", "shrink(49)", "day(1)");
            String script = "errs 9;one 2 dent 3 coins 4;brim 9 of 2;standard 50;dries 9;do 99 of 2 by 0;weep 6 by 0;"
                + "wash 6 of 2 by 0;pour 0 of 2;bend 1;shrink 49;day 1;";
            e.life("one(0, 0, 9)", "tape " + script, "text()");
            e.in("played(0)", NONE);
            e.looksAs(Lives.join(List.of("tape " + script, "text()"), byHand));
            e.life("one(0, 9, 9)", "tape bend 0;", "text()");
            e.refused(0, "played(0)");
            cannotBe("do 1 of 0 by 1;");
            cannotBe("weep 1 by 1;");
            cannotBe("wash 1 of 0 by 0;");
            cannotBe("pour 1 of 0;");
            cannotBe("bend 1;");
            cannotBe("shrink 20;");
            // The seventh of PEOPLE, and a DAY behind the last.
            e.life(Lives.join(Edges.times(6, "one(0, 0, 0)"), "tape one 0 dent 0 coins 0;", "text()"));
            e.refused(0, "played(0)");
            e.life(Lives.full());
            e.refused(0, "played(1)");
        });
    }

    private void cannotBe(String clause) {
        e.life("one(0, 0, 9)", "tape " + clause + "day 5;", "text()");
        e.refused(0, "played(0)");
    }

    private void playedToItsEnd() {
        e.test(PART, "(of so many DAYS those that can pass do): its number among all CLAUSES (from 0); what was done "
            + "stays.", () -> {
            e.life("one(0, 0, 9)", "tape dries 1;do 5 of 0 by 0;wash 6 of 0 by 0;do 7 of 1 by 0;", "text()");
            e.out("played(0)", 2);
            e.out("drops(0, 0, 0)", 5);
            e.out("drops(0, 1, 0)", 0);
            e.then("weep(0, 6)", "deed(0, 0, 1)");
            e.in("played(0)", NONE);
            e.in("drops(0, 0, 0)", 5);
            e.in("drops(0, 1, 0)", 7);
            String days = "tape errs 1;day 2;weep 3 by 0;";
            e.life(Lives.atDay(9997, days, "text()"));
            e.in("played(1)", NONE);
            e.in("is(0)", 9999);
            e.in("drops(0, 3, 0)", 3);
            e.life(Lives.atDay(9998, "deed(0, 0, 9)", days, "text()"));
            e.out("played(1)", 1);
            e.out("is(0)", 9999);
            e.out("drops(0, 0, 0)", 8);
            e.out("drops(0, 3, 0)", 0);
            e.refused(1, "played(1)");
            e.life("one(0, 0, 9)", "tape ", "text()");
            e.asked("played(0)", NONE);
        });
    }
}
