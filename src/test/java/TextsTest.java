/** The language of texts: tokens, faults and what sums come to. */
public final class TextsTest {
    public static void main(String[] args) {
        tokens();
        misplaced();
        numbers();
        tooDeep();
        twice();
        names();
        tooMany();
        theLeast();
        sums();
        asks();
        limits();
        afterFaults();
        Due.done();
    }

    private static void tokens() {
        Due.fault("", 0, -1);
        Due.fault("\n land\n3 ; ", 0, -1);
        Due.fault("land3;", 0, -1);
        Due.fault("hungers1+2;", 0, -1);
        Due.fault("land\t3;", 1, 4);
        Due.fault("Land 3;", 1, 0);
        Due.fault("landx 3;", 1, 0);
        Due.fault("lan 3;", 1, 0);
        for (String letter : new String[] {"a", "z", "A", "Z", "m"}) {
            Due.fault("land" + letter + " 3;", 1, 0);
            Due.fault("land 3" + letter + ";", 1, 6);
        }
        for (String sign : new String[] {"@", "[", "`", "{", ":", "\r", "~", "_"}) {
            Due.fault("land" + sign + " 3;", 1, 4);
        }
        Due.fault("land 0" + ";".repeat(294), 1, 7);
        Due.fault(";".repeat(300), 1, 0);
        Due.fault("finds " + "1+".repeat(146) + "1;", 0, -1);
        Due.fault("finds " + "1".repeat(294), 2, 6);
        Due.fault("finds " + "0".repeat(292) + "1;", 0, -1);
        Due.fault("finds " + "1+".repeat(147), 1, 300);
        Due.fault("land 3.;", 1, 6);
        Due.fault("land 3;!", 1, 7);
        Due.fault("finds if 1<=2 then 1 else 2 end;", 0, -1);
        Due.fault("finds if 1< =2 then 1 else 2 end;", 1, 12);
        Due.fault("finds if 1=<2 then 1 else 2 end;", 1, 11);
        Due.fault("finds if 1>=2 then 1 else 2 end;", 0, -1);
        Due.fault("finds if 1#2 then 1 else 2 end;", 0, -1);
        Due.fault("finds if 1<>2 then 1 else 2 end;", 1, 11);
        Due.fault("hungers who;finds who who;", 1, 22);
        Due.fault("pardons 0 by 0;", 1, 0);
        Due.fault("land 3; " + (char) 233, 1, 8);
        Due.fault("land 3; " + (char) 0, 1, 8);
    }

    private static void misplaced() {
        Due.fault("land", 1, 4);
        Due.fault("land  ", 1, 6);
        Due.fault("land 3", 1, 6);
        Due.fault("land 3  \n", 1, 9);
        Due.fault("3;", 1, 0);
        Due.fault(";", 1, 0);
        Due.fault("land 3;;", 1, 7);
        Due.fault("land forest;", 1, 5);
        Due.fault("land -3;", 1, 5);
        Due.fault("road 0 in 1;", 1, 7);
        Due.fault("road 0 1;", 1, 7);
        Due.fault("call 0 by 1;", 1, 7);
        Due.fault("move 0 in 1;", 1, 7);
        Due.fault("feed 0 to 1;", 1, 7);
        Due.fault("kill 0 1;", 1, 7);
        Due.fault("pardon by 1;", 1, 7);
        Due.fault("person 0 goods 1 fear 1 debts 1;", 1, 9);
        Due.fault("person 0 fear 1 debts 1 goods 1;", 1, 16);
        Due.fault("person 0 fear 1 goods 1;", 1, 23);
        Due.fault("hungers;", 1, 7);
        Due.fault("hungers 1+;", 1, 10);
        Due.fault("hungers +1;", 1, 8);
        Due.fault("hungers (1;", 1, 10);
        Due.fault("hungers 1);", 1, 9);
        Due.fault("hungers ();", 1, 9);
        Due.fault("hungers not 1;", 1, 8);
        Due.fault("hungers to;", 1, 8);
        Due.fault("hungers price;", 1, 8);
        Due.fault("hungers if 1<2 then 3 end;", 1, 22);
        Due.fault("hungers if 1<2 else 3 end;", 1, 15);
        Due.fault("hungers if 1<2 then 3 else 4;", 1, 28);
        Due.fault("hungers if 1<2<3 then 3 else 4 end;", 1, 14);
        Due.fault("hungers if (1<2) then 3 else 4 end;", 1, 13);
        Due.fault("hungers if 1<2 and then 3 else 4 end;", 1, 19);
        Due.fault("hungers if 1<2 not 2<3 then 3 else 4 end;", 1, 15);
    }

    private static void numbers() {
        Due.fault("land 9;", 0, -1);
        Due.fault("land 10;", 2, 5);
        Due.fault("land 0009;", 0, -1);
        Due.fault("land 99999999999999999999999999;", 2, 5);
        Due.fault("road 7 to 7;", 0, -1);
        Due.fault("road 8 to 0;", 2, 5);
        Due.fault("road 0 to 8;", 2, 10);
        Due.fault("person 7 fear 9 goods 9999 debts 9999;", 0, -1);
        Due.fault("person 8 fear 9 goods 9999 debts 9999;", 2, 7);
        Due.fault("person 7 fear 10 goods 9999 debts 9999;", 2, 14);
        Due.fault("person 7 fear 9 goods 10000 debts 9999;", 2, 22);
        Due.fault("person 7 fear 9 goods 9999 debts 10000;", 2, 33);
        Due.fault("call 5 in 7;", 0, -1);
        Due.fault("call 6 in 7;", 2, 5);
        Due.fault("call 5 in 8;", 2, 10);
        Due.fault("move 5 to 7;", 0, -1);
        Due.fault("move 6 to 7;", 2, 5);
        Due.fault("move 5 to 8;", 2, 10);
        Due.fault("feed 5 by 5;kill 5 by 5;pardon 5 by 5;", 0, -1);
        Due.fault("feed 6 by 5;", 2, 5);
        Due.fault("kill 5 by 6;", 2, 10);
        Due.fault("pardon 5 by 6;", 2, 12);
        Due.fault("month 1;month 60;", 0, -1);
        Due.fault("month 0;", 2, 6);
        Due.fault("month 61;", 2, 6);
        Due.fault("earns 9999;", 0, -1);
        Due.fault("earns 10000;", 2, 6);
        Due.fault("earns 4294967297;", 2, 6);
        Due.fault("earns 1+(2*10000);", 2, 11);
    }

    private static void tooDeep() {
        Due.fault("finds ((((((((1))))))));", 0, -1);
        Due.fault("finds (((((((((1)))))))));", 3, 14);
        Due.fault("finds --------1;", 0, -1);
        Due.fault("finds ---------1;", 3, 14);
        Due.fault("finds 1---------1;", 0, -1);
        Due.fault("finds 1----------1;", 3, 16);
        Due.fault("finds ones fears ones fears ones fears ones fears 1;", 0, -1);
        Due.fault("finds ones fears ones fears ones fears ones fears ones 1;", 3, 50);
        Due.fault("finds ones fears ones fears ones fears ones fears fears 1;", 3, 50);
        Due.fault("finds (((((((if not 1<2 then 1 else 2 end)))))));", 3, 16);
        Due.fault("finds (((((((if 1<2 then 1 else 2 end)))))));", 0, -1);
        Due.fault("finds ((((((((if 1<2 then 1 else 2 end))))))));", 3, 14);
        Due.fault("finds (((((((if (1)<2 then 1 else 2 end)))))));", 3, 16);
        Due.fault("finds (((((((if 1<2 then (1) else 2 end)))))));", 3, 25);
        Due.fault("finds (((((((if 1<2 then 1 else -2 end)))))));", 3, 32);
        Due.fault("finds if not not not not not not not 1<2 then 1 else 2 end;", 0, -1);
        Due.fault("finds if not not not not not not not not 1<2 then 1 else 2 end;", 3, 37);
        Due.fault("finds if not not not not not not not 1<2 or 1<(2) then 1 else 2 end;", 0, -1);
        Due.fault("finds (1)+(1)+(1)+(1)+(1)+(1)+(1)+(1)+(1)+(1);", 0, -1);
        Due.fault("finds ((((((((1))))))))+((((((((1))))))));", 0, -1);
        Due.fault("finds ((((((((x", 1, 14);
        Due.fault("finds ((((((((+", 1, 14);
    }

    private static void twice() {
        for (String law : new String[] {"hungers", "finds", "price", "earns"}) {
            Due.fault(law + " 1;" + law + " 2;", 4, law.length() + 3);
        }
        Due.fault("hungers 1;finds 1;price 1;earns 1;land 1;land 1;month 1;month 1;", 0, -1);
        Due.fault("earns 1;land 3;earns", 4, 15);
    }

    private static void names() {
        String[] laws = {"hungers", "finds", "price", "earns"};
        String[] names = {"month", "who", "fear", "land", "forest", "hunger", "out", "goods", "debts", "crowd"};
        String[] in = {"1111", "1111", "1111", "1111", "1111", "1110", "1110", "0011", "0011", "0101"};
        for (int law = 0; law < 4; law++) {
            for (int name = 0; name < 10; name++) {
                boolean fits = in[name].charAt(law) == '1';
                Due.fault(laws[law] + " " + names[name] + ";", fits ? 0 : 5, laws[law].length() + 1);
            }
        }
        Due.fault("earns 1 + ones (hunger);", 5, 16);
        Due.fault("earns 1 hunger;", 1, 8);
    }

    private static void tooMany() {
        String many = "land 1;".repeat(24);
        Due.fault(many, 0, -1);
        Due.fault(many + "land 1;", 6, 168);
        Due.fault(many + " land", 6, 169);
        Due.fault(many + "earns", 6, 168);
    }

    private static void theLeast() {
        String many = "earns 1;" + "land 1;".repeat(23);
        Due.fault(many, 0, -1);
        Due.fault(many + "earns 1;", 4, 169);
        Due.fault(many + "wolf 1;", 1, 169);
        Due.fault(many + "10000;", 1, 169);
        Due.fault("land 10000 to;", 2, 5);
        Due.fault("land 10000", 2, 5);
        Due.fault("finds goods 10000 (;", 5, 6);
        Due.fault("finds 1 10000;", 1, 8);
    }

    private static int earns(String sum) {
        WolfsHead x = new WolfsHead();
        x.land(4);
        x.land(7);
        x.person(0, 3, 1234, 56);
        x.person(1, 8, 77, 9);
        x.person(1, 5, 0, 0);
        x.month(2);
        Due.is("P7 text of " + sum, Due.text(x, "earns " + sum + ";"), 0);
        x.by(0);
        return x.of(1, 11);
    }

    private static void sum(String sum, int want) {
        Due.is("P19 " + sum, earns(sum), want);
    }

    private static void sums() {
        sum("7", 7);
        sum("7-2-1", 4);
        sum("2+3*4", 14);
        sum("(2+3)*4", 20);
        sum("20/3*3", 18);
        sum("20-3-2*5+1", 8);
        sum("50+-7/2", 47);
        sum("50+(0-7)/2", 47);
        sum("50+7/-2", 47);
        sum("5/0", 0);
        sum("9+5/(1-1)", 9);
        sum("-3*-4", 12);
        sum("--5", 5);
        sum("9999*9999/9999", 99);
        sum("9999*9999-9999*100", 99);
        sum("9999*9999/9999-50", 50);
        sum("(9999*9999+9999)/9999-50", 50);
        sum("50-(0-9999*9999-9999)/-9999+50", 0);
        sum("150+(0-9999)*9999/9999", 50);
        sum("150+(0-9999*9999-9999)/9999", 50);
        sum("ones 7", 3);
        sum("ones 0", 0);
        sum("ones 9999", 8);
        sum("ones -7", 3);
        sum("ones (0-9999*9999)", 7);
        sum("ones 3+4", 6);
        sum("ones ones 7", 2);
        sum("fears 0", 3);
        sum("fears 1+1", 9);
        sum("fears (1+1)", 5);
        sum("fears 3", 0);
        sum("fears -1", 0);
        sum("fears 9999", 0);
        sum("fears who", 8);
        sum("month", 2);
        sum("who", 1);
        sum("fear", 8);
        sum("land", 1);
        sum("forest", 7);
        sum("goods", 97);
        sum("debts", 9);
        sum("crowd", 1);
        sum("if 1<2 then 3 else 4 end", 3);
        sum("if 2<1 then 3 else 4 end", 4);
        sum("1+if 2<1 then 3 else 4 end*2", 9);
        sum("if 1<2 then if 2<1 then 3 else 4 end else 5 end+1", 5);
        sum("if if 1<2 then 3 else 4 end=3 then 6 else 7 end", 6);
    }

    private static void ask(String ask, boolean want) {
        sum("if " + ask + " then 1 else 2 end", want ? 1 : 2);
    }

    private static void asks() {
        ask("1<2", true);
        ask("2<2", false);
        ask("2<=2", true);
        ask("3<=2", false);
        ask("3>2", true);
        ask("2>2", false);
        ask("2>=2", true);
        ask("1>=2", false);
        ask("2=2", true);
        ask("1=2", false);
        ask("1#2", true);
        ask("2#2", false);
        ask("1+1=4/2", true);
        ask("not 1=2", true);
        ask("not not 1=2", false);
        ask("1=1 or 1=1 and 1=2", true);
        ask("1=2 and 1=1 or 1=1", true);
        ask("1=2 and 1=2 or 1=2", false);
        ask("1=1 and 1=1", true);
        ask("1=1 and 1=2", false);
        ask("1=2 or 1=2 or 1=1", true);
        ask("not 1=1 or 1=1", true);
        ask("not 1=2 and 1=2", false);
    }

    private static void law(String law, int what, int want) {
        WolfsHead x = new WolfsHead();
        x.land(4);
        x.person(0, 3, 0, 0);
        Due.is("P7 text of " + law, Due.text(x, law), 0);
        x.by(0);
        Due.is("P19 " + law, x.of(0, what), want);
    }

    private static void limits() {
        law("hungers 10;", 8, 9);
        law("hungers 9;", 8, 9);
        law("hungers -1;", 8, 0);
        law("hungers 0;", 8, 0);
        law("finds 11;", 9, 10);
        law("finds 10;", 9, 10);
        law("finds -1;", 9, 0);
        law("price 9999+1;", 10, 9999);
        law("price 9999;", 10, 9999);
        law("price -1;", 10, 0);
        law("earns 100;", 11, 99);
        law("earns 99;", 11, 99);
        law("earns -1;", 11, 0);
        law("earns 5;", 8, 1);
        law("earns 5;", 9, 3);
        law("earns 5;", 10, 100);
        law("price 5;", 11, 10);
    }

    /** What was read of a text with a fault leaves nothing behind. */
    private static void afterFaults() {
        WolfsHead x = new WolfsHead();
        x.land(4);
        x.person(0, 3, 0, 0);
        for (int i = 0; i < 5; i++) {
            Due.is("P7 a fault", Due.text(x, "finds 1;" + "earns " + "1+".repeat(120) + ";"), -1);
        }
        Due.is("P7 no fault", Due.text(x, "earns " + "1+".repeat(97) + "1;land 2;"), 0);
        x.by(0);
        Due.is("P7 earns", x.of(0, 11), 98);
        Due.is("P7 finds without", x.of(0, 9), 3);
        Due.is("P7 its clauses", x.played(0), -1);
        Due.is("P7 its clauses", x.ofLand(1, 0), 2);
    }
}
