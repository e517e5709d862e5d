/** Part II of the terms: what a TEXT may say, what its laws are worth, and which FAULT stands where. */
final class TextsTest {
    private static final int NONE = ThimbleLaw.NONE;
    private static final Due due = new Due();

    public static void main(String[] args) {
        values();
        names();
        cutting();
        choosing();
        standing();
        numbers();
        depth();
        once();
        namesOfTheClause();
        clauses();
        leastOfOneToken();
        wholeTapes();
        due.end("TextsTest");
    }

    private static void worth(String sum, int value) {
        ThimbleLaw x = new ThimbleLaw();
        x.one(0, 0, 0);
        x.one(2, 4, 77);
        x.day(3);
        x.deed(1, 1, 12);
        x.weep(1, 8);
        due.is("reading " + sum, Due.read(x, "fine " + sum + ";"), 0);
        x.by(0);
        due.is(sum, x.drops(1, 1, 3), value);
    }

    private static void fault(String text, int what, int place) {
        ThimbleLaw x = new ThimbleLaw();
        due.is("reading " + text, Due.read(x, text), what == 0 ? 0 : NONE);
        due.is("fault of " + text, x.fault(0), what);
        due.is("place in " + text, x.fault(1), place);
    }

    private static void values() {
        worth("1+2*3", 7);
        worth("(1+2)*3", 9);
        worth("20-5-4", 11);
        worth("100/7/2", 7);
        worth("100/7*2", 28);
        worth("2*100/7", 28);
        worth("- -5", 5);
        worth("10- -5", 15);
        worth("-2*-3", 6);
        worth("0003", 3);
        worth("above 9 by 4", 5);
        worth("above 4 by 9", 0);
        worth("above 9 by 4*2", 10);
        worth("above above 9 by 1 by above 5 by 2", 5);
        worth("above -3 by -9", 6);
        worth("brims 0*100+brims 1*10+brims 2", 321);
        worth("brims 3", 0);
        worth("brims -1", 0);
        worth("brims (1+1)", 1);
        worth("brims kind", 2);
        worth("brims 9999", 0);
        worth("1+\n2 +3", 6);
    }

    private static void names() {
        worth("day", 3);
        worth("who", 1);
        worth("stuff", 2);
        worth("dent", 4);
        worth("room", 16);
        worth("kind", 1);
        worth("drops", 12);
        worth("coins", 77);
        worth("tears", 8);
    }

    private static void cutting() {
        worth("5/0", 0);
        worth("5/(1-1)+2", 2);
        worth("10+-7/2", 7);
        worth("10+7/-2", 7);
        worth("10-(-7)/2", 13);
        worth("9999*9999/1000", 1000);
        worth("9999*9999-9999*9999+1", 1);
        worth("9999*9999/9999", 100);
        worth("9999*9999+5-9999*100", 100);
        worth("-9999*9999/-1000", 1000);
        worth("0-9999*9999-5+9999*100+200", 100);
        worth("above (9999*9999) by 1/100", 9999);
        worth("above (9999*9999) by (-9999*9999)/1000", 1000);
    }

    private static void choosing() {
        worth("if 1<2 then 3 else 4 end", 3);
        worth("if 2<2 then 3 else 4 end", 4);
        worth("if 2<=2 then 3 else 4 end", 3);
        worth("if 3<=2 then 3 else 4 end", 4);
        worth("if 2>2 then 3 else 4 end", 4);
        worth("if 3>2 then 3 else 4 end", 3);
        worth("if 2>=2 then 3 else 4 end", 3);
        worth("if 1>=2 then 3 else 4 end", 4);
        worth("if 2=2 then 3 else 4 end", 3);
        worth("if 2=3 then 3 else 4 end", 4);
        worth("if 2#2 then 3 else 4 end", 4);
        worth("if 2#3 then 3 else 4 end", 3);
        worth("if not 2#3 then 3 else 4 end", 4);
        worth("if not not 2#3 then 3 else 4 end", 3);
        worth("if 1=2 and 1=2 or 1=1 then 3 else 4 end", 3);
        worth("if 1=1 or 1=2 and 1=2 then 3 else 4 end", 3);
        worth("if 1=1 and 1=2 then 3 else 4 end", 4);
        worth("if not 1=1 or 1=1 then 3 else 4 end", 3);
        worth("if not 1=2 and 1=2 then 3 else 4 end", 4);
        worth("1+if 1=1 then 10 else 20 end*2", 21);
        worth("if if 1=1 then 1 else 2 end=1 then if 1=2 then 5 else 6 end else 7 end", 6);
        worth("if 1+1=2*1 then 1+2 else 4 end", 3);
    }

    private static void standing() {
        fault("", 0, NONE);
        fault("   ", 0, NONE);
        fault("dries", 1, 5);
        fault("dries  ", 1, 7);
        fault("dries ;", 1, 6);
        fault("dries 1", 1, 7);
        fault("dries 1 2;", 1, 8);
        fault("dries 1+;", 1, 8);
        fault("dries +1;", 1, 6);
        fault("dries 1-*2;", 1, 8);
        fault("dries (1;", 1, 8);
        fault("dries 1);", 1, 7);
        fault("dries ();", 1, 7);
        fault("dries 1<2;", 1, 7);
        fault("dries not 1<2;", 1, 6);
        fault("dries if 1 then 2 else 3 end;", 1, 11);
        fault("dries if (1<2) then 2 else 3 end;", 1, 11);
        fault("dries if 1<2 2 else 3 end;", 1, 13);
        fault("dries if 1<2 then 2 end;", 1, 20);
        fault("dries if 1<2 then 2 else 3;", 1, 26);
        fault("dries if 1<2<3 then 2 else 3 end;", 1, 12);
        fault("dries if 1< =2 then 2 else 3 end;", 1, 12);
        fault("dries if 1=<2 then 2 else 3 end;", 1, 11);
        fault("dries above 1 2;", 1, 14);
        fault("dries brims;", 1, 11);
        fault("dries foo;", 1, 6);
        fault("dries Day;", 1, 6);
        fault("dries days;", 1, 6);
        fault("dries da y;", 1, 6);
        fault("dries standard;", 1, 6);
        fault("Dries 1;", 1, 0);
        fault(";", 1, 0);
        fault("bend 0;;", 1, 7);
        fault("bend 0;1;", 1, 7);
        fault("bend 0 bend 0;", 1, 7);
        fault("bend -1;", 1, 5);
        fault("bend who;", 1, 5);
        fault("bend0;", 0, NONE);
        fault("do 1 of 0 by0;do1of0by0;", 0, NONE);
        fault("one 0 dent 0;", 1, 12);
        fault("one 0 coins 0 dent 0;", 1, 6);
        fault("wash 1 by 0;", 1, 7);
        fault("weep 1 of 0;", 1, 7);
        fault("pour 0 by 0;", 1, 7);
        fault("bend 0;$", 1, 7);
        fault("bend\t0;", 1, 4);
        fault("bend 0;\r\n", 1, 7);
        fault("dries 1_2;", 1, 7);
        fault("dries \u00e9;", 1, 6);
        fault("dries if 1<=", 1, 12);
        fault("dries if 1>=", 1, 12);
        fault("dries if 1<", 1, 11);
        for (String letter : new String[] {"a", "z", "A", "Z"}) {
            fault("dries day" + letter + ";", 1, 6);
        }
        for (String sign : new String[] {"@", "[", "`", "{", ":", ","}) {
            fault("dries day" + sign + ";", 1, 9);
        }
        fault("who 1;", 1, 0);
        fault("of;", 1, 0);
    }

    private static void numbers() {
        fault("one 2 dent 9 coins 9999;", 0, NONE);
        fault("one 2 dent 9 coins 10000;", 2, 19);
        fault("one 3 dent 9 coins 0;", 2, 4);
        fault("one 2 dent 10 coins 0;", 2, 11);
        fault("brim 9 of 2;", 0, NONE);
        fault("brim 10 of 2;", 2, 5);
        fault("brim 0 of 3;", 2, 10);
        fault("standard 1;standard 99;", 0, NONE);
        fault("standard 0;", 2, 9);
        fault("standard 100;", 2, 9);
        fault("do 99 of 2 by 5;do 1 of 0 by 0;", 0, NONE);
        fault("do 0 of 2 by 5;", 2, 3);
        fault("do 100 of 2 by 5;", 2, 3);
        fault("do 99 of 3 by 5;", 2, 9);
        fault("do 99 of 2 by 6;", 2, 14);
        fault("weep 99 by 5;weep 1 by 0;", 0, NONE);
        fault("weep 0 by 5;", 2, 5);
        fault("weep 100 by 5;", 2, 5);
        fault("weep 9 by 6;", 2, 10);
        fault("wash 99 of 2 by 5;", 0, NONE);
        fault("wash 0 of 2 by 5;", 2, 5);
        fault("wash 100 of 2 by 5;", 2, 5);
        fault("wash 9 of 3 by 5;", 2, 10);
        fault("wash 9 of 2 by 6;", 2, 15);
        fault("pour 5 of 2;", 0, NONE);
        fault("pour 6 of 2;", 2, 5);
        fault("pour 5 of 3;", 2, 10);
        fault("bend 5;", 0, NONE);
        fault("bend 6;", 2, 5);
        fault("shrink 99;shrink 1;", 0, NONE);
        fault("shrink 0;", 2, 7);
        fault("shrink 100;", 2, 7);
        fault("day 60;day 1;", 0, NONE);
        fault("day 0;", 2, 4);
        fault("day 61;", 2, 4);
        fault("dries 9999;", 0, NONE);
        fault("dries 10000;", 2, 6);
        fault("dries 00000000009999;", 0, NONE);
        fault("dries 4294967297;", 2, 6);
        fault("dries 18446744073709551617;", 2, 6);
        fault("bend 4294967296;", 2, 5);
        fault("dries 1+10000 x", 2, 8);
    }

    private static void depth() {
        fault("dries ((((((((1))))))));", 0, NONE);
        fault("dries (((((((((1)))))))));", 3, 14);
        fault("dries --------1;", 0, NONE);
        fault("dries ---------1;", 3, 14);
        fault("dries 1--------1;", 0, NONE);
        fault("dries 1---------1;", 0, NONE);
        fault("dries 1----------1;", 3, 16);
        fault("dries (((((((brims 1)))))))+((((((((1))))))));", 0, NONE);
        fault("dries ((((((((brims 1))))))));", 3, 14);
        fault("dries (((((((above 1 by 1)))))));", 0, NONE);
        fault("dries (((((((above 1 by (1))))))));", 3, 24);
        fault("dries (((((((above (1) by 1)))))));", 3, 19);
        fault("dries (((((((above 1 by 1*(1))))))));", 0, NONE);
        fault("dries (((((((brims 1*(1))))))));", 0, NONE);
        fault("dries (((((((if 1=1 then 1 else 1 end)))))));", 0, NONE);
        fault("dries (((((((if 1=(1) then 1 else 1 end)))))));", 3, 18);
        fault("dries (((((((if 1=1 then (1) else 1 end)))))));", 3, 25);
        fault("dries (((((((if 1=1 then 1 else -1 end)))))));", 3, 32);
        fault("dries (((((((if not 1=1 then 1 else 1 end)))))));", 3, 16);
        fault("dries ((((((if not 1=1 then (1) else 1 end))))));", 0, NONE);
        fault("dries ((((((if not 1=(1) then 1 else 1 end))))));", 3, 21);
        fault("dries ((((((if not 1=1 and (1)=1 then 1 else 1 end))))));", 0, NONE);
        fault("dries if not not not not not not not 1=1 then 1 else 1 end;", 0, NONE);
        fault("dries if not not not not not not not not 1=1 then 1 else 1 end;", 3, 37);
        fault("dries above above above above above above above above 1 by 1 by 1 by 1 by 1 by 1 by 1 by 1 by 1;", 0, NONE);
        fault("dries above above above above above above above above above 1 by 1;", 3, 54);
    }

    private static void once() {
        fault("dries 1;errs 1;fine 1;", 0, NONE);
        fault("dries 1;errs 1;dries 1;", 4, 15);
        fault("errs 1;errs", 4, 7);
        fault("fine 1;bend 0; fine 1;", 4, 15);
        fault("bend 0;bend 0;standard 1;standard 1;", 0, NONE);
    }

    private static void namesOfTheClause() {
        fault("dries day+who+stuff+dent+room+kind+drops;", 0, NONE);
        fault("errs day+who+stuff+dent+room+kind+drops+coins+tears;", 0, NONE);
        fault("fine day+who+stuff+dent+room+kind+drops+coins+tears;", 0, NONE);
        fault("dries 1+coins;", 5, 8);
        fault("errs coins;dries brims tears;", 5, 23);
        fault("dries 1 coins;", 1, 8);
        fault("dries coins", 5, 6);
    }

    private static void clauses() {
        String most = "bend 0;".repeat(24);
        fault(most, 0, NONE);
        fault(most + " bend 9", 6, 169);
        fault(most + "day 0;", 6, 168);
        fault(most + "dries 1;", 6, 168);
        fault("bend 0;".repeat(21) + "dries 1;errs 1;fine 1;", 0, NONE);
    }

    private static void leastOfOneToken() {
        String most = "bend 0;".repeat(24);
        fault(most + "x", 1, 168);
        fault(most + ";", 1, 168);
        fault(most + "1", 1, 168);
        fault("errs 1;" + "bend 0;".repeat(23) + "errs 1;", 4, 168);
        fault("bend 0 10000;", 1, 7);
        fault("dries 1 (((((((((1", 1, 8);
        fault("dries ((((((((1 (", 1, 16);
    }

    private static void wholeTapes() {
        String longest = "dries " + "1+".repeat(146) + "1;";
        fault(longest + " ".repeat(300 - longest.length()), 0, NONE);
        fault("x".repeat(300), 1, 0);
        fault("dries " + "9".repeat(294), 2, 6);
        fault("dries " + "0".repeat(293) + ";", 0, NONE);
        fault("dries " + "1+".repeat(147), 1, 300);
        worth("1" + "+1".repeat(140), 141);
        worth("if " + "1=1 and ".repeat(20) + "1=1 or 1=2 then 5 else 6 end", 5);
        worth("1+1*if 1=2 or 1=1 and 1=1+1*if 1=2 or 1=1 and 0=1*(1-1*(2-1*(3-1*above 9 by -(0-7)))) "
            + "then 1 else 0 end-1 then 40 else 30 end", 41);
    }
}
