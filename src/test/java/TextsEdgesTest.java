/** The texts (part II), sentence by sentence, where they name a bound or a fault. */
public final class TextsEdgesTest {
    private static final String[] LAWS = {"hungers", "finds", "price", "earns"};

    public static void main(String[] args) {
        blanks();
        letters();
        digits();
        longest();
        manyClauses();
        fewest();
        grammar();
        ones();
        fears();
        names();
        fromTheLeft();
        cutting();
        above();
        choices();
        whereAndFirst();
        cannotStand();
        numbers();
        open();
        openInChoices();
        openSiblings();
        secondTime();
        foreignNames();
        theLeastOfTwo();
        lawBounds();
        without();
        Due.done();
    }

    private static void fault(Says says, String text, int what, int place) {
        WolfsHead x = new WolfsHead();
        says.is("text of [" + text + "]", Due.text(x, text), what == 0 ? 0 : -1);
        says.is("fault(0) of [" + text + "]", x.fault(0), what);
        says.is("fault(1) of [" + text + "]", x.fault(1), what == 0 ? -1 : place);
        says.is("about(2) of [" + text + "]", x.about(2), what == 0 ? 1 : 0);
    }

    private static void good(Says says, String text) {
        fault(says, text, 0, -1);
    }

    private static void blanks() {
        Says says = new Says(7, "TOKENS, blanks (32, 10) aside");
        good(says, " \n land \n\n 3\n;\n ");
        good(says, "land 3;\n");
        for (int sign = 0; sign < 256; sign++) {
            boolean blank = sign == 32 || sign == 10;
            boolean part = sign >= '0' && sign <= '9' || sign == ';';
            if (!part) {
                fault(says, "land " + (char) sign + "3;", blank ? 0 : 1, 5);
            }
        }
        fault(says, "la nd 3;", 1, 0);
        fault(says, "land 1 2;", 1, 7);
        fault(says, "land 1\n2;", 1, 7);
    }

    private static void letters() {
        Says says = new Says(7, "letters a .. z, A .. Z one behind the other (one TOKEN)");
        fault(says, "lands 3;", 1, 0);
        fault(says, "lan 3;", 1, 0);
        fault(says, "LAND 3;", 1, 0);
        fault(says, "lanD 3;", 1, 0);
        fault(says, "xland 3;", 1, 0);
        for (char letter : "azAZ".toCharArray()) {
            fault(says, "land" + letter + "3;", 1, 0);
        }
        for (char beside : "`{@[".toCharArray()) {
            fault(says, "land" + beside + "3;", 1, 4);
        }
        fault(says, "month1;monthmonth1;", 1, 7);
        fault(says, "finds notwho;", 1, 6);
        fault(says, "finds onesone;", 1, 6);
        good(says, "finds ones1;");
        fault(says, "z".repeat(300), 1, 0);
        fault(says, "land 1;" + "Z".repeat(293), 1, 7);
    }

    private static void digits() {
        Says says = new Says(7, "digits likewise (NUMBERS, 0 .. 9999)");
        good(says, "road0to7;");
        good(says, "land 0000000009;");
        good(says, "earns 0+9999;");
        good(says, "earns 09999;");
        fault(says, "earns 10000;", 2, 6);
        fault(says, "earns 010000;", 2, 6);
        fault(says, "earns 65536;", 2, 6);
        fault(says, "earns 4294967296;", 2, 6);
        fault(says, "earns 2147483648;", 2, 6);
        fault(says, "earns 18446744073709551617;", 2, 6);
        fault(says, "9".repeat(300), 1, 0);
        fault(says, "earns " + "9".repeat(294), 2, 6);
        fault(says, "earns " + "0".repeat(294), 1, 300);
        for (char beside : "/:".toCharArray()) {
            fault(says, "land 3" + beside + ";", 1, 6);
        }
    }

    private static void longest() {
        Says says = new Says(7, "<= >= < > = # + - * / ( ) ; (the longest)");
        for (String sign : new String[] {"<=", ">=", "<", ">", "=", "#"}) {
            good(says, "finds if 1" + sign + "2 then 1 else 2 end;");
        }
        fault(says, "finds if 1< =2 then 1 else 2 end;", 1, 12);
        fault(says, "finds if 1> =2 then 1 else 2 end;", 1, 12);
        fault(says, "finds if 1<==2 then 1 else 2 end;", 1, 12);
        fault(says, "finds if 1==2 then 1 else 2 end;", 1, 11);
        fault(says, "finds if 1=>2 then 1 else 2 end;", 1, 11);
        fault(says, "finds if 1>", 1, 11);
        fault(says, "finds if 1>=", 1, 12);
        good(says, "finds 1*2/3+4-(5);");
    }

    private static void manyClauses() {
        Says says = new Says(8, "6 the 25th CLAUSE (at its first TOKEN).");
        good(says, "month 1;".repeat(24));
        good(says, "month 1;".repeat(24) + "  \n ");
        fault(says, "month 1;".repeat(24) + "month 1;", 6, 192);
        fault(says, "month 1;".repeat(24) + "\n month", 6, 194);
        fault(says, "month 1;".repeat(24) + "land;", 6, 192);
        fault(says, "month 1;".repeat(24) + "road 9 to 9;", 6, 192);
        fault(says, "hungers 1;" + "month 1;".repeat(23) + "finds 1;", 6, 194);
        good(says, "hungers 1;finds 1;price 1;earns 1;" + "land 1;".repeat(20));
        fault(says, "hungers 1;finds 1;price 1;earns 1;" + "land 1;".repeat(21), 6, 174);
        fault(says, "month 1;".repeat(23) + "month 1", 1, 191);
        fault(says, "month 1;".repeat(23) + "month 61;month 1;", 2, 190);
    }

    private static void fewest() {
        Says says = new Says(7, "{CLAUSE}, 24 at most");
        good(says, "");
        good(says, "land 0;");
        WolfsHead x = new WolfsHead();
        Due.text(x, "month 1;".repeat(24));
        says.is("played(0)", x.played(0), -1).is("all 24", x.is(0), 24);
    }

    private static void grammar() {
        Says says = new Says(7, "{CLAUSE}");
        String[] all = {"land 3 ;", "road 0 to 1 ;", "person 0 fear 1 goods 2 debts 3 ;", "call 0 in 1 ;",
            "move 0 to 1 ;", "feed 0 by 1 ;", "kill 0 by 1 ;", "pardon 0 by 1 ;", "month 1 ;", "hungers 1 ;",
            "finds 1 ;", "price 1 ;", "earns 1 ;", "earns if not 1 < 2 or 3 = 4 and 5 # 6 then ( 1 ) else - 2 end ;"};
        for (String clause : all) {
            good(says, clause);
            String[] tokens = clause.split(" ");
            int at = 0;
            for (int i = 0; i < tokens.length; i++) {
                String ahead = clause.substring(0, at);
                if (i > 0) {
                    fault(says, ahead, 1, ahead.length());
                }
                fault(says, ahead + "wolf " + clause.substring(at), 1, at);
                fault(says, ahead + "to to " + clause.substring(at), 1, i > 0 && tokens[i].equals("to") ? at + 3 : at);
                at += tokens[i].length() + 1;
            }
            fault(says, clause + ";", 1, clause.length());
        }
    }

    private static void sum(Says says, String sum, int want) {
        WolfsHead x = Scene.row(4, 7);
        x.person(0, 3, 1234, 56);
        x.person(1, 8, 77, 9);
        x.person(1, 5, 0, 0);
        x.month(2);
        says.is("text of [" + sum + "]", Due.text(x, "price " + sum + ";"), 0);
        x.by(0);
        says.is(sum, x.of(1, 10), want);
    }

    private static void ones() {
        Says says = new Says(19, "ones ONE (how many 1 its size has, told by twos)");
        sum(says, "ones 0", 0);
        sum(says, "ones 1", 1);
        sum(says, "ones 2", 1);
        sum(says, "ones 8191", 13);
        sum(says, "ones 8192", 1);
        sum(says, "ones 9999", 8);
        sum(says, "ones -1", 1);
        sum(says, "ones -9999", 8);
        sum(says, "ones (0-8191)", 13);
        sum(says, "ones (9999*9999)", 7);
        sum(says, "ones (0-9999*9999)", 7);
        sum(says, "ones (1024*1023)", 7);
        sum(says, "ones (1024*512-1)", 19);
        sum(says, "ones 3*2", 4);
        sum(says, "ones -ones 7", 2);
    }

    private static void fears() {
        Says says = new Says(19, "fears ONE (FEAR of the PERSON of that number; 0 if none such is told)");
        sum(says, "fears 0", 3);
        sum(says, "fears 2", 5);
        sum(says, "fears 3", 0);
        sum(says, "fears 5", 0);
        sum(says, "fears 6", 0);
        sum(says, "fears 9999", 0);
        sum(says, "fears -1", 0);
        sum(says, "fears (0-9999*9999)", 0);
        sum(says, "fears fears 1", 0);
        sum(says, "fears (fears 0-1)", 5);
        sum(says, "fears 1*2", 16);
        WolfsHead x = Scene.row(0, 0);
        x.person(0, 4, 0, 0);
        x.person(0, 7, 0, 0);
        Scene.killAndPardon(x, 1, 0);
        Scene.rule(x, "earns fears 1*10+fears 2;");
        says.is("of a dead one", x.of(0, 11), 70);
        x.person(0, 6, 0, 0);
        says.is("told since", x.of(0, 11), 76);
    }

    private static void names() {
        Says says = new Says(19, "NAMES: month, who (its number), fear, land (its), forest (of that LAND) in all");
        for (int law = 0; law < 4; law++) {
            WolfsHead x = Scene.row(4, 7);
            x.person(0, 3, 0, 0);
            x.person(1, 2, 0, 0);
            x.month(1);
            Due.text(x, LAWS[law] + " month;");
            Due.text(x, LAWS[law] + " who;");
            Due.text(x, LAWS[law] + " fear;");
            Due.text(x, LAWS[law] + " forest+land;");
            int[] due = {1, 1, 2, 8};
            for (int text = 0; text < 4; text++) {
                x.by(text);
                says.is(LAWS[law] + " by " + text, x.of(1, 8 + law), due[text]);
            }
        }
        WolfsHead y = Scene.row(4, 7);
        y.person(0, 3, 0, 0);
        Scene.outlaw(y, 0);
        Scene.rule(y, "hungers hunger+2;finds out;price hunger*10+out;");
        y.month(1);
        new Says(19, "hunger, out in hungers, finds, price").is("hungers", y.of(0, 8), 4).is("finds", y.of(0, 9), 1)
            .is("price", y.of(0, 10), 21);
        Scene.rule(y, "hungers 1;finds hunger;");
        new Says(19, "hunger, out in hungers, finds, price").is("finds", y.of(0, 9), 2);
        Scene.rule(y, "hungers out;");
        new Says(19, "hunger, out in hungers, finds, price").is("hungers", y.of(0, 8), 1);
        WolfsHead z = Scene.row(4, 7);
        z.person(0, 3, 71, 22);
        Scene.rule(z, "price goods*100+debts;earns goods-debts;");
        new Says(19, "goods, debts in price, earns").is("price", z.of(0, 10), 7122).is("earns", z.of(0, 11), 49);
        crowdName();
    }

    private static void crowdName() {
        Says says = new Says(19, "crowd (how many others that aren't dead are in the same LAND) in finds, earns");
        WolfsHead x = Scene.village();
        Scene.rule(x, "finds crowd;earns crowd+10;");
        says.is("two others", x.of(0, 9), 2).is("two others", x.of(0, 11), 12).is("of(0, 12)", x.of(0, 12), 2);
        says.is("alone", x.of(3, 9), 0).is("alone", x.of(3, 11), 10).is("of(3, 12)", x.of(3, 12), 0);
        Scene.killAndPardon(x, 1, 2);
        says.is("one is dead", x.of(0, 9), 1).is("one is dead", x.of(0, 11), 11);
        says.is("of the dead one", x.of(1, 9), 2).is("of the dead one", x.of(1, 12), 2);
        x.move(3, 0);
        says.is("one came", x.of(0, 9), 2).is("who came", x.of(3, 9), 2);
    }

    private static void fromTheLeft() {
        Says says = new Says(19, "From the left");
        sum(says, "10-3-2", 5);
        sum(says, "10-3+2", 9);
        sum(says, "100/10/5", 2);
        sum(says, "100/10*5", 50);
        sum(says, "7*3/2", 10);
        sum(says, "7/2*3", 9);
        sum(says, "1+2*3", 7);
        sum(says, "10-2*3-1", 3);
        sum(says, "2*-3+10", 4);
        sum(says, "-2+10", 8);
        sum(says, "10--2", 12);
    }

    private static void cutting() {
        Says says = new Says(19, "/ cuts towards 0, by 0 it is 0");
        sum(says, "7/2", 3);
        sum(says, "10+-7/2", 7);
        sum(says, "10+7/-2", 7);
        sum(says, "10+-7/-2", 13);
        sum(says, "10+-1/2", 10);
        sum(says, "10+1/-2", 10);
        sum(says, "5+7/0", 5);
        sum(says, "5+-7/0", 5);
        sum(says, "5+0/0", 5);
        sum(says, "5+9/(3-3)*7", 5);
        sum(says, "7/8", 0);
    }

    private static void above() {
        Says says = new Says(19, "what is above 1000000 (below the same less) is that, at each step.");
        sum(says, "1000*1000-999*1000", 1000);
        sum(says, "1000*1000+1-999*1000", 1000);
        sum(says, "1000*1000-1+1+1-999*1000", 1000);
        sum(says, "1001*1000-999*1000", 1000);
        sum(says, "9999*9999-999*1000", 1000);
        sum(says, "9999*9999*9999*9999*9999-999*1000", 1000);
        sum(says, "9999*9999/1000", 1000);
        sum(says, "9999*9999+9999-9999-9000*110", 1);
        sum(says, "9999*9999+9999-9999-9000*110+9999", 10000 - 1);
        sum(says, "0-1000*1000-1+999*1000+1001", 1);
        sum(says, "0-1001*1000+1000*1000+1", 1);
        sum(says, "-9999*9999+1000*1000+1", 1);
        sum(says, "-9999*9999-9999+1000*1000+1", 1);
        sum(says, "-9999*9999*9999/1000+1001", 1);
        sum(says, "-(9999*9999)*-(9999*9999)-999*1001", 1);
        sum(says, "-(9999*9999)*(9999*9999)+1000*1000+3", 3);
        sum(says, "1000*1000/1000", 1000);
        sum(says, "1000*999+1000-999*1001", 1);
    }

    private static void choices() {
        Says says = new Says(19, "of if just the SUM that is chosen is asked.");
        sum(says, "if 1=1 then 5 else 6 end", 5);
        sum(says, "if 1=2 then 5 else 6 end", 6);
        sum(says, "if 1=2 then 5 else 6 end*10", 60);
        sum(says, "if 1=1 then if 1=2 then 1 else 2 end else 3 end", 2);
        sum(says, "if 1=2 then 1 else if 1=2 then 2 else 3 end end", 3);
        sum(says, "100+if 1=1 then 5 else 6 end+if 1=2 then 10 else 20 end", 125);
        Says both = new Says(19, "EITHER: BOTH {or BOTH}. BOTH: ASK {and ASK}. ASK: not ASK, or SUM one of < <= > >= = #");
        String[] asks = {"1=1", "1=2", "not 1=1", "not 1=2", "1=2 or 1=1", "1=1 or 1=2", "1=2 or 1=2", "1=1 and 1=1",
            "1=1 and 1=2", "1=2 and 1=1", "1=1 or 1=1 and 1=2", "1=2 and 1=2 or 1=1", "1=1 or 1=2 and 1=2",
            "not 1=1 or 1=1", "not 1=2 and 1=2", "not 1=1 and 1=2", "1<2", "2<2", "2<1", "1<=2", "2<=2", "3<=2",
            "2>1", "2>2", "1>2", "2>=1", "2>=2", "1>=2", "1#2", "2#2", "-1<0", "0>-1", "not not not 1=2"};
        String due = "1001" + "110" + "1" + "00" + "1" + "1" + "1" + "1" + "0" + "0" + "100" + "110" + "100" + "110"
            + "10" + "11" + "1";
        both.is("as many", asks.length, due.length());
        for (int i = 0; i < asks.length && i < due.length(); i++) {
            sum(both, "if " + asks[i] + " then 1 else 0 end", due.charAt(i) - '0');
        }
    }

    private static void whereAndFirst() {
        Says says = new Says(8, "FAULTS, the first as TOKENS are come to, at the TOKEN's first byte (of the end at the length)");
        fault(says, "land 10;wolf", 2, 5);
        fault(says, "land wolf;land 10;", 1, 5);
        fault(says, "  land   10;", 2, 9);
        fault(says, "land 3;  wolves", 1, 9);
        fault(says, "land", 1, 4);
        fault(says, "land \n", 1, 6);
        fault(says, "finds (1", 1, 8);
        fault(says, "finds if 1<2 then 3 else 4 end   ", 1, 33);
        fault(says, "finds goods 10000;", 5, 6);
        fault(says, "finds 10000 goods;", 2, 6);
        fault(says, "land 1" + ";".repeat(294), 1, 7);
        fault(says, "land 1;" + " ".repeat(288) + "month", 1, 300);
        fault(says, "land 1;" + " ".repeat(292) + "x", 1, 299);
    }

    private static void cannotStand() {
        Says says = new Says(8, "1 it can't stand there, or is none.");
        for (char sign : "!\"$%&',.:?@[\\]^_`{|}~".toCharArray()) {
            fault(says, "land 3;" + sign, 1, 7);
            fault(says, "finds 1" + sign + "1;", 1, 7);
        }
        for (int sign : new int[] {0, 9, 11, 13, 31, 127, 128, 160, 255}) {
            fault(says, "land" + (char) sign + "3;", 1, 4);
        }
        for (String word : new String[] {"to", "in", "by", "goods", "debts", "fear", "who", "ones", "fears", "if", "then",
            "else", "end", "not", "and", "or", "crowd", "forest", "hunger", "out", "7", "=", "(", ")", "-", ";"}) {
            fault(says, word, 1, 0);
            fault(says, "land 3;" + word, 1, 7);
        }
        for (String word : new String[] {"to", "in", "by", "then", "else", "end", "not", "and", "or", "road", "person",
            "call", "move", "feed", "kill", "pardon", "hungers", "finds", "price", "earns", "=", ")", "+", "*", "/", ";",
            "<", "#"}) {
            fault(says, "finds " + word, 1, 6);
            fault(says, "finds 1+" + word, 1, 8);
            fault(says, "finds (" + word, 1, 7);
        }
        fault(says, "finds if 1 then 2 else 3 end;", 1, 11);
        fault(says, "finds if not 1 then 2 else 3 end;", 1, 15);
        fault(says, "finds if (1=1) then 2 else 3 end;", 1, 11);
        fault(says, "finds if 1=2=3 then 2 else 3 end;", 1, 12);
        fault(says, "finds 1=2;", 1, 7);
        fault(says, "finds 1 2;", 1, 8);
        fault(says, "finds who fear;", 1, 10);
        fault(says, "land land;", 1, 5);
        fault(says, "month month;", 1, 6);
        fault(says, "month -1;", 1, 6);
        fault(says, "land (3);", 1, 5);
        fault(says, "land 1+2;", 1, 6);
    }

    private static void range(String ahead, int least, int most, String behind) {
        Says says = new Says(8, "2 a NUMBER that isn't one of those told (above 9999; FOREST, FEAR 0 .. 9, LANDS 0 .. 7, "
            + "PERSONS 0 .. 5, MONTHS 1 .. 60).");
        good(says, ahead + least + behind);
        good(says, ahead + most + behind);
        fault(says, ahead + (most + 1) + behind, 2, ahead.length());
        fault(says, ahead + "00" + (most + 1), 2, ahead.length());
        fault(says, ahead + "9".repeat(30) + behind, 2, ahead.length());
        if (least > 0) {
            fault(says, ahead + (least - 1) + behind, 2, ahead.length());
        }
    }

    private static void numbers() {
        range("land ", 0, 9, ";");
        range("road ", 0, 7, " to 1;");
        range("road 1 to ", 0, 7, ";");
        range("person ", 0, 7, " fear 1 goods 1 debts 1;");
        range("person 1 fear ", 0, 9, " goods 1 debts 1;");
        range("person 1 fear 1 goods ", 0, 9999, " debts 1;");
        range("person 1 fear 1 goods 1 debts ", 0, 9999, ";");
        range("call ", 0, 5, " in 1;");
        range("call 1 in ", 0, 7, ";");
        range("move ", 0, 5, " to 1;");
        range("move 1 to ", 0, 7, ";");
        range("feed ", 0, 5, " by 1;");
        range("feed 1 by ", 0, 5, ";");
        range("kill ", 0, 5, " by 1;");
        range("kill 1 by ", 0, 5, ";");
        range("pardon ", 0, 5, " by 1;");
        range("pardon 1 by ", 0, 5, ";");
        range("month ", 1, 60, ";");
        for (String law : LAWS) {
            range(law + " ", 0, 9999, ";");
            range(law + " 1+if 1<", 0, 9999, " then 1 else 2 end;");
            range(law + " 1*ones ", 0, 9999, ";");
        }
    }

    private static void open() {
        Says says = new Says(8, "3 the 9th of ( not ones fears if and - (of one ONE) that are open around one another (at it).");
        String[] opens = {"(", "ones ", "fears ", "-", "if 1<"};
        String[] closes = {")", "", "", "", " then 1 else 2 end"};
        for (int a = 0; a < opens.length; a++) {
            for (int b = 0; b < opens.length; b++) {
                String seven = "finds " + opens[a].repeat(7);
                String ends = closes[a].repeat(7);
                good(says, seven + opens[b] + "1" + closes[b] + ends + ";");
                for (int c = 0; c < opens.length; c++) {
                    String eight = seven + opens[b];
                    fault(says, eight + opens[c] + "1" + closes[c] + closes[b] + ends + ";", 3, eight.length());
                }
            }
            fault(says, "finds " + opens[a].repeat(8) + opens[a], 3, 6 + opens[a].length() * 8);
            fault(says, "finds " + opens[a].repeat(8) + "wolf", 1, 6 + opens[a].length() * 8);
            fault(says, "finds " + opens[a].repeat(8) + ")", 1, 6 + opens[a].length() * 8);
        }
        String nots = "not ".repeat(7);
        good(says, "finds if " + nots + "1<2 then 1 else 2 end;");
        fault(says, "finds if " + nots + "not 1<2 then 1 else 2 end;", 3, 37);
        fault(says, "finds if " + nots + "(1)<2 then 1 else 2 end;", 3, 37);
        fault(says, "finds if " + nots + "-1<2 then 1 else 2 end;", 3, 37);
        fault(says, "finds if " + nots + "1<-2 then 1 else 2 end;", 3, 39);
        fault(says, "finds (((((((if not 1<2 then 1 else 2 end)))))));", 3, 16);
        fault(says, "finds (((((((if 1<(2) then 1 else 2 end)))))));", 3, 18);
        fault(says, "finds (((((((if 1<2 then -1 else 2 end)))))));", 3, 25);
        fault(says, "finds (((((((if 1<2 then 1 else ones 2 end)))))));", 3, 32);
        fault(says, "finds (((((((if 1<2 or 1<fears 2 then 1 else 2 end)))))));", 3, 25);
    }

    /** The 9th, open in each place of a choice, and what comes behind it isn't read any more. */
    private static void openInChoices() {
        Says says = new Says(8, "3 the 9th .. (at it): in each part of an if");
        String seven = "(".repeat(7);
        String closed = ")".repeat(7);
        String[] ahead = {"if ", "if 1<", "if 1<2 or ", "if 1<2 or 1<", "if 1<2 and ", "if not 1<2 and 2<", "if 1<2 then ",
            "if 1<2 then 1+", "if 1<2 then 2*", "if 1<2 then 3 else ", "if 1<2 then 3 else 4-"};
        String[] behind = {"<2 then 3 else 4 end", " then 3 else 4 end", "<2 then 3 else 4 end", " then 3 else 4 end",
            "<2 then 3 else 4 end", " then 3 else 4 end", " else 4 end", " else 4 end", " else 4 end", " end", " end"};
        for (int i = 0; i < ahead.length; i++) {
            good(says, "finds " + ahead[i] + seven + "1" + closed + behind[i] + ";");
            int place = 6 + ahead[i].length() + 7;
            fault(says, "finds " + ahead[i] + seven + "(1)" + closed + behind[i] + ";", 3, place);
            fault(says, "finds " + ahead[i] + seven + "-1" + closed + behind[i] + ";", 3, place);
            fault(says, "finds " + ahead[i] + seven + "goods" + closed + behind[i] + ";", 5, place);
            fault(says, "finds " + ahead[i] + seven + "10000" + closed + behind[i] + ";", 2, place);
            fault(says, "finds " + ahead[i] + seven + "1)" + closed + behind[i] + ";", 1, place + 8);
        }
    }

    private static void openSiblings() {
        Says says = new Says(8, "3 the 9th .. that are open around one another: beside one another they aren't");
        good(says, "finds " + "(1)+".repeat(20) + "1;");
        good(says, "finds " + "-1-".repeat(20) + "1;");
        good(says, "finds " + "ones 1+".repeat(20) + "1;");
        good(says, "finds ((((((((1))))))))*((((((((2))))))));");
        good(says, "finds --------1*--------2;");
        good(says, "finds (((((((if 1<2 then 1 else 2 end)))))))+((((((((1))))))));");
        good(says, "finds if " + "not ".repeat(7) + "1<2 and " + "not ".repeat(7) + "1<2 or 1<((((((2)))))) then 1 else 2 end;");
        good(says, "finds 1-2-3-4-5-6-7-8-9-10-11;");
        good(says, "finds 1--------2;");
        good(says, "finds 1---------2;");
        fault(says, "finds 1----------2;", 3, 16);
        good(says, "finds ((((((((1))))))));earns ((((((((1))))))));");
        good(says, "finds if 1<2 then if 1<2 then 1 else 2 end else if 1<2 then 1 else 2 end end;");
    }

    private static void secondTime() {
        Says says = new Says(8, "4 hungers, finds, price, earns for the second time (at it).");
        for (String law : LAWS) {
            fault(says, law + " 1;" + law + " 1;", 4, law.length() + 3);
            fault(says, law + " 1;month 1; \n" + law, 4, law.length() + 13);
            for (String other : LAWS) {
                if (!other.equals(law)) {
                    good(says, law + " 1;" + other + " 1;");
                }
            }
        }
        good(says, "land 1;land 1;road 0 to 1;road 0 to 1;month 1;month 1;");
    }

    private static void foreignNames() {
        Says says = new Says(8, "5 a NAME that isn't of that CLAUSE (at it).");
        String[] names = {"month", "who", "fear", "land", "forest", "hunger", "out", "goods", "debts", "crowd"};
        String[] in = {"1111", "1111", "1111", "1111", "1111", "1110", "1110", "0011", "0011", "0101"};
        for (int law = 0; law < 4; law++) {
            for (int name = 0; name < names.length; name++) {
                int due = in[name].charAt(law) == '1' ? 0 : 5;
                fault(says, LAWS[law] + " " + names[name] + ";", due, LAWS[law].length() + 1);
                fault(says, LAWS[law] + " 1+ones (" + names[name] + ");", due, LAWS[law].length() + 9);
                fault(says, LAWS[law] + " if 1<" + names[name] + " then 1 else 2 end;", due, LAWS[law].length() + 6);
            }
        }
        fault(says, "finds 1;earns crowd;price crowd;", 5, 26);
        fault(says, "hungers crowd", 5, 8);
    }

    private static void theLeastOfTwo() {
        Says says = new Says(8, "of one the least");
        String law = "earns 1;" + "month 1;".repeat(23);
        fault(says, law + "earns 1;", 4, 192);
        fault(says, law + "wolf", 1, 192);
        fault(says, law + "99999", 1, 192);
        fault(says, law + "to", 1, 192);
        fault(says, "finds 1 10000;", 1, 8);
        fault(says, "finds 1 goods;", 1, 8);
        fault(says, "finds ((((((((1 (;", 1, 16);
        fault(says, "land goods;", 1, 5);
        fault(says, "road 1 10000;", 1, 7);
        fault(says, "finds ((((((((goods", 5, 14);
        fault(says, "finds ((((((((10000", 2, 14);
        fault(says, "earns 1;land earns", 1, 13);
    }

    private static void bound(Says says, int law, String sum, int want) {
        WolfsHead x = Scene.row(4);
        x.person(0, 3, 0, 0);
        Scene.rule(x, LAWS[law] + " " + sum + ";");
        says.is(LAWS[law] + " " + sum, x.of(0, 8 + law), want);
    }

    private static void lawBounds() {
        String[] sentences = {"hungers: 0 at least, 9 at most", "finds (the odds of 10): 0 at least, 10 at most",
            "price: 0 at least, 9999 at most", "earns: 0 at least, 99 at most"};
        int[] most = {9, 10, 9999, 99};
        for (int law = 0; law < 4; law++) {
            Says says = new Says(19, sentences[law]);
            bound(says, law, "0", 0);
            bound(says, law, "1", 1);
            bound(says, law, "-1", 0);
            bound(says, law, "-9999*9999", 0);
            bound(says, law, (most[law] - 1) + "", most[law] - 1);
            bound(says, law, most[law] + "", most[law]);
            bound(says, law, most[law] + "+1", most[law]);
            bound(says, law, "9999*9999", most[law]);
        }
    }

    private static void without() {
        for (int forest = 0; forest < 10; forest++) {
            WolfsHead x = Scene.row(forest);
            x.person(0, 0, 0, 0);
            new Says(19, "finds .. without: 5 less FOREST by 2, cut.").is("forest " + forest, x.of(0, 9), 5 - forest / 2);
        }
        WolfsHead x = Scene.row(4, 4);
        x.person(0, 0, 0, 0);
        Scene.outlaw(x, 0);
        Scene.rule(x, "finds 0;hungers 0;");
        Says price = new Says(19, "price: 0 at least, 9999 at most; without: 100 and 20 times OUT.");
        price.is("out 0", x.of(0, 10), 100);
        x.month(1);
        price.is("out 1", x.of(0, 10), 120);
        for (int i = 0; i < 8; i++) {
            x.month(60);
        }
        x.month(13);
        price.is("out 494", x.of(0, 6), 494).is("out 494", x.of(0, 10), 9980);
        x.month(1);
        price.is("out 495", x.of(0, 10), 9999);
        x.month(60);
        price.is("out 555", x.of(0, 10), 9999);
        String[] sentences = {"hungers .. without: 1.", "finds .. without", "price .. without", "earns .. without: 10."};
        int[] due = {1, 3, 100, 10};
        for (int law = 0; law < 4; law++) {
            for (int other = 0; other < 4; other++) {
                WolfsHead y = Scene.row(4);
                y.person(0, 0, 0, 0);
                Scene.rule(y, LAWS[other] + " 7;");
                new Says(19, sentences[law]).is("by " + LAWS[other], y.of(0, 8 + law), law == other ? 7 : due[law]);
            }
        }
    }
}
