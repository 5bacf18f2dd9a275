/** Promises 19 to 29, sentence by sentence, where they name a bound or a refusal. */
public final class AnswersEdgesTest {
    public static void main(String[] args) {
        of();
        ofEach();
        ofLand();
        is();
        bookOthers();
        bookLatest();
        foretoldOthers();
        foretoldEdges();
        toPayOthers();
        toPayEdges();
        toPayDeaths();
        surestOthers();
        surestAsNow();
        surestAlike();
        surestTerms();
        steps();
        unheard();
        crowd();
        inCrowdOthers();
        inCrowdEdges();
        changesNothing();
        Due.done();
    }

    private static void of() {
        Says says = new Says(19, "NONE for others.");
        WolfsHead x = Scene.village();
        for (int what = 0; what < 13; what++) {
            says.is("of(-1, " + what + ")", x.of(-1, what), -1).is("of(5, " + what + ")", x.of(5, what), -1);
            says.is("of(6, " + what + ")", x.of(6, what), -1).is("of(4, " + what + ") is there", x.of(4, what) >= 0, true);
        }
        for (int person = 0; person < 5; person++) {
            says.is("of(" + person + ", 13)", x.of(person, 13), -1).is("of(" + person + ", -1)", x.of(person, -1), -1);
        }
        for (int odd : Scene.ODD) {
            says.is("person " + odd, x.of(odd, 0), -1).is("what " + odd, x.of(0, odd), -1);
        }
        says.is("without persons", Scene.row(0).of(0, 0), -1).is("without lands", new WolfsHead().of(0, 11), -1);
        Scene.killAndPardon(x, 0, 1);
        Says dead = new Says(19, "Of a PERSON: .. 7 how it is, 8 hungers now, 9 finds now, 10 price now, 11 earns now, 12 crowd.");
        int[] due = {0, 3, 0, 0, 0, 0, 0, 3, 1, 3, 100, 10, 2};
        for (int what = 0; what < 13; what++) {
            dead.is("a dead one: of(0, " + what + ")", x.of(0, what), due[what]);
        }
    }

    /** Each number by itself, with all the others different from it. */
    private static void ofEach() {
        Says says = new Says(19, "0 its LAND, 1 FEAR, 2 GOODS, 3 DEBTS, 4 CALLS, 5 HUNGER, 6 OUT, 7 how it is");
        WolfsHead x = Scene.row(0, 0, 0, 0, 0, 0);
        x.person(5, 9, 88, 77);
        x.person(4, 8, 66, 55);
        for (int i = 0; i < 3; i++) {
            x.call(0, 0);
        }
        Scene.outlaw(x, 1);
        Scene.rule(x, "hungers 3;finds 0;earns 0;");
        x.month(2);
        int[] free = {5, 9, 88, 77, 3, 0, 0, 0};
        int[] outlaw = {4, 8, 0, 0, 0, 6, 2, 1};
        for (int what = 0; what < 8; what++) {
            says.is("of(0, " + what + ")", x.of(0, what), free[what]).is("of(1, " + what + ")", x.of(1, what), outlaw[what]);
        }
    }

    private static void ofLand() {
        Says says = new Says(20, "NONE for others.");
        WolfsHead x = Scene.village();
        for (int what = 0; what < 3; what++) {
            says.is("land -1", x.ofLand(-1, what), -1).is("land 3", x.ofLand(3, what), -1).is("land 8", x.ofLand(8, what), -1);
            says.is("without lands", new WolfsHead().ofLand(0, what), -1);
        }
        says.is("what 3", x.ofLand(0, 3), -1).is("what -1", x.ofLand(0, -1), -1);
        for (int odd : Scene.ODD) {
            says.is("land " + odd, x.ofLand(odd, 0), -1).is("what " + odd, x.ofLand(0, odd), -1);
        }
        Says bits = new Says(20, "2 PERSONS there that aren't dead (bits).");
        bits.is("three", x.ofLand(0, 2), 7).is("one", x.ofLand(1, 2), 8).is("one", x.ofLand(2, 2), 16);
        Scene.killAndPardon(x, 0, 1);
        Scene.outlaw(x, 2);
        bits.is("a dead one isn't", x.ofLand(0, 2), 6);
        x.move(3, 0);
        bits.is("none", x.ofLand(1, 2), 0).is("all kinds", x.ofLand(0, 2), 14);
    }

    private static void is() {
        Says says = new Says(21, "0 MONTH, 1 X. -2 for others.");
        WolfsHead x = new WolfsHead();
        says.is("is(-1)", x.is(-1), -2).is("is(2)", x.is(2), -2).is("is(0)", x.is(0), 0).is("is(1)", x.is(1), 149);
        for (int odd : Scene.ODD) {
            says.is("is(" + odd + ")", x.is(odd), -2);
        }
    }

    private static void bookOthers() {
        Says says = new Says(22, "-2 if there is none such, and for others.");
        WolfsHead x = Scene.village();
        for (int what = 0; what < 3; what++) {
            says.is("an empty one", x.book(0, what), -2);
        }
        x.call(3, 1);
        says.is("book(0, -1)", x.book(0, -1), -2).is("book(0, 3)", x.book(0, 3), -2);
        says.is("book(1, 0)", x.book(1, 0), -2).is("book(-2, 0)", x.book(-2, 0), -2);
        for (int odd : Scene.ODD) {
            says.is("i " + odd, x.book(odd, 0), -2).is("what " + odd, x.book(0, odd), -2);
        }
        new Says(22, "BOOK: how many (i NONE)").is("what 0", x.book(-1, 0), 1).is("what 2", x.book(-1, 2), 1)
            .is("of none", Scene.row(0).book(-1, 1), 0);
        says.is("the one", x.book(0, 1), 3);
    }

    private static void bookLatest() {
        Says says = new Says(22, "BOOK (the latest 30): MONTH, PERSON, what .. the i-th, from the eldest on");
        WolfsHead x = Scene.village();
        for (int i = 0; i < 33; i++) {
            x.call(i % 3, 0);
            says.is("how many", x.book(-1, 0), Math.min(30, i + 1));
            x.month(1);
            if (i == 28 || i == 29 || i == 30) {
                int eldest = Math.max(0, i - 29);
                says.is("the eldest of " + i, x.book(0, 0), eldest).is("the eldest of " + i, x.book(0, 1), eldest % 3);
                says.is("the latest of " + i, x.book(Math.min(i, 29), 0), i).is("beyond", x.book(i + 1, 0), -2);
            }
        }
        for (int i = 0; i < 30; i++) {
            says.is("month of " + i, x.book(i, 0), i + 3).is("person of " + i, x.book(i, 1), (i + 3) % 3);
            says.is("what of " + i, x.book(i, 2), 0);
        }
        says.is("beyond", x.book(30, 0), -2);
        x.undo();
        says.is("a month back", x.book(0, 0), 3).is("a call back", x.undo(), 28).is("the eldest again", x.book(0, 0), 2);
        says.is("as many", x.book(-1, 0), 30).is("the latest", x.book(29, 0), 31);
    }

    private static void foretoldOthers() {
        Says says = new Says(23, "FORETOLD: how it is (goods false), GOODS (goods true). NONE for others.");
        WolfsHead x = Scene.village();
        for (int n : new int[] {0, -1, 61, Integer.MIN_VALUE, Integer.MAX_VALUE}) {
            says.is("n " + n, x.foretold(n, 0, false), -1).is("n " + n, x.foretold(n, 0, true), -1);
        }
        for (int person : new int[] {-1, 5, 6, Integer.MIN_VALUE, Integer.MAX_VALUE}) {
            says.is("person " + person, x.foretold(1, person, false), -1).is("person " + person, x.foretold(1, person, true), -1);
        }
        says.is("n 1", x.foretold(1, 4, true), 10).is("n 60", x.foretold(60, 4, true), 600).is("n 60", x.foretold(60, 4, false), 0);
        says.is("without persons", Scene.row(0).foretold(1, 0, true), -1);
    }

    private static void foretoldEdges() {
        Says says = new Says(23, "FORETOLD behind n MONTHS (1 .. 60; those that can pass), nothing else being done");
        WolfsHead x = Scene.village();
        Scene.killAndPardon(x, 0, 1);
        Scene.outlaw(x, 2);
        Scene.rule(x, "finds 0;hungers 3;earns 99;");
        says.is("a dead one", x.foretold(60, 0, false), 3).is("a dead one", x.foretold(60, 0, true), 0);
        says.is("a pardoned one", x.foretold(1, 1, false), 2).is("a pardoned one", x.foretold(2, 1, true), 198);
        says.is("an outlaw", x.foretold(2, 2, false), 1).is("starved", x.foretold(3, 2, false), 3);
        says.is("9999 at most", x.foretold(60, 3, true), 9999).is("just below", x.foretold(50, 3, true), 9950);
        says.is("at most", x.foretold(51, 3, true), 9999).is("an outlaw's GOODS", x.foretold(60, 2, true), 0);
        WolfsHead y = Scene.late(Scene.row(0, 0));
        y.person(0, 0, 0, 0);
        says.is("39 can pass", y.foretold(39, 0, true), 390).is("of 40", y.foretold(40, 0, true), 390);
        says.is("of 60", y.foretold(60, 0, true), 390);
        y.month(39);
        says.is("none can pass", y.foretold(1, 0, true), 390).is("none can pass", y.foretold(60, 0, false), 0);
    }

    private static void toPayOthers() {
        Says says = new Says(24, "TO PAY. NONE: none, and for others.");
        WolfsHead x = Scene.village();
        says.is("a free one", x.toPay(0, 3), -1);
        Scene.killAndPardon(x, 0, 1);
        says.is("a dead one", x.toPay(0, 3), -1).is("a pardoned one", x.toPay(1, 3), -1);
        Scene.outlaw(x, 2);
        says.is("can be", x.toPay(2, 3), 0);
        for (int odd : new int[] {-1, 5, 6, Integer.MIN_VALUE, Integer.MAX_VALUE}) {
            says.is("person " + odd, x.toPay(odd, 3), -1).is("by " + odd, x.toPay(2, odd), -1);
        }
        Scene.rule(x, "price 0;");
        says.is("by a dead one", x.toPay(2, 0), -1).is("itself, price 0", x.toPay(2, 2), 0);
    }

    private static WolfsHead debtor(int goods, String text) {
        WolfsHead x = Scene.row(0, 0);
        x.person(0, 0, 0, 0);
        x.person(1, 0, goods, 0);
        Scene.outlaw(x, 0);
        Scene.rule(x, text);
        return x;
    }

    private static void toPayEdges() {
        Says says = new Says(24, "in how many MONTHS (0 .. 60) one has GOODS for the price of an outlaw, if all goes on as FORETOLD");
        String safe = "finds 0;hungers 0;";
        says.is("just enough now", debtor(100, safe + "price 100;").toPay(0, 1), 0);
        says.is("one too little", debtor(99, safe + "price 100;").toPay(0, 1), 1);
        says.is("just enough in 1", debtor(90, safe + "price 100;").toPay(0, 1), 1);
        says.is("in 2", debtor(89, safe + "price 100;").toPay(0, 1), 2);
        says.is("in 60", debtor(0, safe + "price 600;").toPay(0, 1), 60);
        says.is("in 61", debtor(0, safe + "price 601;").toPay(0, 1), -1);
        says.is("60 by 99", debtor(4059, safe + "earns 99;price 9999;").toPay(0, 1), 60);
        says.is("9999 is enough", debtor(9000, safe + "earns 99;price 9999;").toPay(0, 1), 11);
        says.is("the price grows", debtor(70, safe).toPay(0, 1), -1);
        says.is("the price as then", debtor(0, safe + "price if month=5 then 50 else 9999 end;").toPay(0, 1), 5);
        says.is("the price as then", debtor(0, safe + "price if out=7 then 3 else 9999 end;").toPay(0, 1), 7);
        says.is("itself, as then", debtor(0, safe + "price if out=7 then 0 else 1 end;").toPay(0, 0), 7);
        WolfsHead y = Scene.late(debtor(0, safe + "earns 0;"));
        Scene.rule(y, safe + "price 390;");
        says.is("in the last one", y.toPay(0, 1), 39);
        Scene.rule(y, safe + "price 391;");
        says.is("beyond the last one", y.toPay(0, 1), -1);
        y.month(39);
        says.is("when none can pass", y.toPay(0, 1), -1);
        Scene.rule(y, safe + "price 390;");
        says.is("when none can pass", y.toPay(0, 1), 0);
    }

    private static void toPayDeaths() {
        Says says = new Says(24, "(both not dead then, that one an outlaw)");
        String eats = "finds 0;hungers 3;price ";
        says.is("alive then", debtor(80, eats + "100;").toPay(0, 1), 2);
        says.is("dead then", debtor(70, eats + "100;").toPay(0, 1), -1);
        WolfsHead x = Scene.row(0, 0);
        x.person(0, 0, 0, 0);
        x.person(0, 0, 0, 0);
        Scene.outlaw(x, 0);
        Scene.outlaw(x, 1);
        Scene.rule(x, "finds 0;hungers if who=1 then 3 else 0 end;price if out<2 then 1 else 0 end;");
        says.is("the payer alive then", x.toPay(0, 1), 2);
        Scene.rule(x, "finds 0;hungers if who=1 then 3 else 0 end;price if out<3 then 1 else 0 end;");
        says.is("the payer dead then", x.toPay(0, 1), -1).is("itself", x.toPay(0, 0), 3);
        WolfsHead y = debtor(0, "finds 4;hungers 0;price 70;");
        // 149, 26259, 19524, 26355, 25439, 13434, 3420: the draw of 0 comes in the seventh
        says.is("found in the seventh", y.toPay(0, 1), -1).is("so it is foretold", y.foretold(7, 0, false), 3);
        Scene.rule(y, "finds 4;hungers 0;price 60;");
        says.is("in the sixth", y.toPay(0, 1), 6).is("nothing changes", y.is(0), 0);
    }

    private static void surestOthers() {
        Says says = new Says(25, "the upper (i -2), the lower one (i NONE), the i-th LAND. -3 for others.");
        WolfsHead x = Scene.village();
        says.is("a free one", x.surest(0, 1, -2), -3);
        Scene.killAndPardon(x, 0, 1);
        says.is("a dead one", x.surest(0, 1, -1), -3).is("a pardoned one", x.surest(1, 1, 0), -3);
        Scene.outlaw(x, 2);
        for (int n = 1; n <= 6; n++) {
            says.is("i -2 of " + n, x.surest(2, n, -2) > 0, true).is("i -1 of " + n, x.surest(2, n, -1) > 0, true);
            says.is("the last of " + n, x.surest(2, n, n - 1), 1).is("beyond " + n, x.surest(2, n, n), -3);
            says.is("i -3 of " + n, x.surest(2, n, -3), -3);
        }
        for (int n : new int[] {0, -1, 7, Integer.MIN_VALUE, Integer.MAX_VALUE}) {
            says.is("n " + n, x.surest(2, n, -2), -3).is("n " + n, x.surest(2, n, -1), -3).is("n " + n, x.surest(2, n, 0), -3);
        }
        for (int odd : Scene.ODD) {
            says.is("i " + odd, x.surest(2, 6, odd), -3).is("person " + odd, x.surest(odd, 1, 0), -3);
        }
        says.is("person -1", x.surest(-1, 1, 0), -3).is("person 5", x.surest(5, 1, 0), -3);
    }

    private static void way(Says says, WolfsHead x, int n, int upper, int lower, int... lands) {
        says.is("upper of " + n, x.surest(0, n, -2), upper).is("lower of " + n, x.surest(0, n, -1), lower);
        for (int i = 0; i < n; i++) {
            says.is("land " + i + " of " + n, x.surest(0, n, i), lands[i]);
        }
    }

    private static void surestAsNow() {
        Says says = new Says(25, "it is found by finds there (HUNGER, OUT, MONTH as now; crowd of the others that are in that LAND now)");
        WolfsHead x = Scene.row(0, 0, 0);
        x.person(0, 0, 0, 0);
        x.person(0, 0, 0, 0);
        x.person(1, 0, 0, 0);
        Scene.outlaw(x, 0);
        Scene.rule(x, "hungers 1;finds 0;");
        x.month(2);
        Scene.rule(x, "hungers 1;finds hunger+out+month;");
        way(says, x, 3, 8, 125, 0, 0, 0);
        Scene.rule(x, "finds if crowd=0 then 0 else 5 end;");
        way(says, x, 1, 1, 2, 0);
        way(says, x, 2, 1, 2, 1, 2);
        Scene.outlaw(x, 1);
        x.by(0);
        x.kill(1, 0);
        Scene.outlaw(x, 0);
        x.by(2);
        way(says, x, 6, 1, 1, 0, 0, 0, 0, 0, 0);
        x.move(0, 1);
        way(says, x, 2, 1, 1, 0, 0);
    }

    private static void surestAlike() {
        Says says = new Says(25, "of like ones the lowest LAND first, then the second, ..");
        WolfsHead x = Scene.row(0, 0, 0, 0);
        x.person(2, 0, 0, 0);
        Scene.outlaw(x, 0);
        Scene.rule(x, "finds 0;");
        way(says, x, 1, 1, 1, 1);
        way(says, x, 2, 1, 1, 1, 0);
        way(says, x, 6, 1, 1, 1, 0, 0, 0, 0, 0);
        Scene.rule(x, "finds 10;");
        way(says, x, 2, 0, 1, 1, 0);
        Scene.rule(x, "finds if land=3 then 0 else 5 end;");
        way(says, x, 2, 1, 1, 3, 3);
        Scene.rule(x, "finds if land=0 or land=3 then 5 else 0 end;");
        way(says, x, 3, 1, 1, 1, 1, 1);
        x.back();
        WolfsHead y = Scene.row(0, 0);
        y.land(0);
        y.person(2, 0, 0, 0);
        Scene.outlaw(y, 0);
        way(says, y, 2, 1, 4, 2, 2);
    }

    private static void surestTerms() {
        Says says = new Says(25, "the ODDS (in lowest terms)");
        int[][] odds = {{0, 1, 1, 1}, {1, 9, 10, 531441}, {2, 4, 5, 4096}, {5, 1, 2, 1}, {8, 1, 5, 1}, {9, 1, 10, 1}, {10, 0, 1, 0}};
        int[] lower = {1, 1000000, 15625, 64, 15625, 1000000, 1};
        for (int i = 0; i < odds.length; i++) {
            WolfsHead x = Scene.row(0, 0);
            x.person(0, 0, 0, 0);
            Scene.outlaw(x, 0);
            Scene.rule(x, "finds " + odds[i][0] + ";");
            says.is("upper by " + odds[i][0], x.surest(0, 1, -2), odds[i][1]).is("lower", x.surest(0, 1, -1), odds[i][2]);
            says.is("upper of 6 by " + odds[i][0], x.surest(0, 6, -2), odds[i][3]).is("lower of 6", x.surest(0, 6, -1), lower[i]);
        }
    }

    private static void steps() {
        Says says = new Says(26, "STEPS of two LANDS: the fewest ROADS (0: itself; NONE). NONE: none, and for others.");
        WolfsHead x = Scene.row(0, 0, 0, 0, 0, 0, 0, 0);
        for (int one = 0; one < 8; one++) {
            for (int other = 0; other < 8; other++) {
                says.is("steps(" + one + ", " + other + ")", x.steps(one, other), Math.abs(one - other));
            }
        }
        says.is("steps(-1, 0)", x.steps(-1, 0), -1).is("steps(0, -1)", x.steps(0, -1), -1);
        says.is("steps(8, 0)", x.steps(8, 0), -1).is("steps(0, 8)", x.steps(0, 8), -1).is("steps(8, 8)", x.steps(8, 8), -1);
        for (int odd : Scene.ODD) {
            says.is("one " + odd, x.steps(odd, 0), -1).is("other " + odd, x.steps(0, odd), -1).is("both", x.steps(odd, odd), -1);
        }
        WolfsHead y = Scene.village();
        says.is("no way", y.steps(0, 2), -1).is("itself", y.steps(2, 2), 0).is("not told", y.steps(3, 3), -1);
        says.is("without lands", new WolfsHead().steps(0, 0), -1);
        x.road(0, 7);
        says.is("a ring", x.steps(0, 7), 1).is("a ring", x.steps(0, 4), 4).is("a ring", x.steps(1, 6), 3);
    }

    private static void unheard() {
        Says says = new Says(27, "UNHEARD: LANDS (bits) to which one can't come by n (0 .. 9) ROADS, one a MONTH (staying allowed). "
            + "NONE for others.");
        WolfsHead x = Scene.row(0, 0, 0, 0, 0, 0, 0, 0);
        for (int n = 0; n <= 9; n++) {
            int heard = Math.min(8, n + 1);
            says.is("unheard(0, " + n + ")", x.unheard(0, n), 255 & ~((1 << heard) - 1));
        }
        says.is("n -1", x.unheard(0, -1), -1).is("n 10", x.unheard(0, 10), -1).is("land -1", x.unheard(-1, 1), -1);
        says.is("land 8", x.unheard(8, 1), -1);
        for (int odd : Scene.ODD) {
            says.is("land " + odd, x.unheard(odd, 0), -1).is("n " + odd, x.unheard(0, odd), -1);
        }
        WolfsHead y = Scene.village();
        says.is("not told", y.unheard(3, 0), -1).is("itself alone", y.unheard(2, 9), 3).is("staying", y.unheard(0, 9), 4);
        says.is("one land", Scene.row(0).unheard(0, 0), 0).is("without lands", new WolfsHead().unheard(0, 0), -1);
    }

    private static void crowd() {
        Says says = new Says(28, "A call more: how many there are (land NONE: none any more). -2 for others, or if there are 5.");
        WolfsHead x = Scene.village();
        says.is("none yet", x.crowd(-1), 0).is("crowd(-2)", x.crowd(-2), -2).is("crowd(3)", x.crowd(3), -2);
        for (int odd : Scene.ODD) {
            says.is("crowd(" + odd + ")", x.crowd(odd), -2);
        }
        for (int i = 1; i <= 5; i++) {
            says.is("call " + i, x.crowd(2), i);
        }
        says.is("the sixth", x.crowd(0), -2).is("about(5)", x.about(5), 5).is("none is lost", x.inCrowd(2, 5, 0), 1);
        says.is("one that isn't a LAND", x.crowd(3), -2).is("crowd(-1)", x.crowd(-1), 0).is("about(5)", x.about(5), 0);
        says.is("anew", x.crowd(0), 1).is("not the old ones", x.inCrowd(2, 1, 0), 0).is("no step", x.about(4), 0);
        says.is("without lands", new WolfsHead().crowd(0), -2);
    }

    private static void inCrowdOthers() {
        Says says = new Says(29, "NONE for others (k 0 .. 5), and without calls.");
        WolfsHead x = Scene.village();
        for (int what = 0; what < 3; what++) {
            says.is("without calls", x.inCrowd(0, 0, what), -1);
        }
        x.crowd(0);
        for (int what = 0; what < 3; what++) {
            says.is("s -1", x.inCrowd(-1, 0, what), -1).is("s 3", x.inCrowd(3, 0, what), -1);
            says.is("k -1", x.inCrowd(0, -1, what), -1).is("k 6", x.inCrowd(0, 6, what), -1);
            says.is("k 5", x.inCrowd(0, 5, what), 0).is("k 0", x.inCrowd(0, 0, what), 0);
        }
        says.is("what -1", x.inCrowd(0, 1, -1), -1).is("what 3", x.inCrowd(0, 1, 3), -1);
        for (int odd : Scene.ODD) {
            says.is("s " + odd, x.inCrowd(odd, 0, 0), -1).is("k " + odd, x.inCrowd(0, odd, 0), -1);
            says.is("what " + odd, x.inCrowd(0, 0, odd), -1);
        }
        x.crowd(-1);
        says.is("none any more", x.inCrowd(0, 0, 0), -1);
    }

    private static void inCrowdIs(Says says, WolfsHead x, int s, int k, int... due) {
        for (int what = 0; what < 3; what++) {
            says.is("inCrowd(" + s + ", " + k + ", " + what + ")", x.inCrowd(s, k, what), due[what]);
        }
    }

    private static void inCrowdEdges() {
        Says first = new Says(29, "one that began in a LAND s and each MONTH stayed or went by a ROAD, at the first call in s itself");
        WolfsHead x = Scene.village();
        x.crowd(1);
        inCrowdIs(first, x, 1, 1, 1, 1, 1);
        inCrowdIs(first, x, 0, 0, 1, 0, 0);
        inCrowdIs(first, x, 0, 1, 0, 0, 0);
        inCrowdIs(first, x, 2, 0, 1, 0, 0);
        x.crowd(2);
        inCrowdIs(first, x, 2, 1, 1, 2, 2);
        inCrowdIs(first, x, 1, 1, 2, 1, 1);
        Says must = new Says(29, "MUST: at which it was in all such (0 without any).");
        inCrowdIs(must, x, 1, 2, 0, 0, 0);
        inCrowdIs(must, x, 1, 0, 0, 0, 0);
        inCrowdIs(must, x, 2, 0, 0, 0, 0);
        WolfsHead y = Scene.row(0, 0);
        for (int i = 0; i < 5; i++) {
            y.crowd(0);
        }
        Says ways = new Says(29, "WAYS that it may have gone (rows of LANDS, one for each call) by which it was at just k (0 .. 5) of the calls");
        inCrowdIs(ways, y, 0, 0, 0, 0, 0);
        inCrowdIs(ways, y, 0, 1, 1, 1, 1);
        inCrowdIs(ways, y, 0, 2, 4, 31, 1);
        inCrowdIs(ways, y, 0, 3, 6, 31, 1);
        inCrowdIs(ways, y, 0, 4, 4, 31, 1);
        inCrowdIs(ways, y, 0, 5, 1, 31, 31);
        inCrowdIs(ways, y, 1, 0, 1, 0, 0);
        inCrowdIs(ways, y, 1, 1, 4, 30, 0);
        inCrowdIs(ways, y, 1, 4, 1, 30, 30);
        inCrowdIs(ways, y, 1, 5, 0, 0, 0);
    }

    private static void changesNothing() {
        Says says = new Says(23, "All that follows changes nothing.");
        WolfsHead x = asked();
        WolfsHead y = asked();
        x.foretold(60, 0, true);
        x.toPay(0, 3);
        x.surest(0, 6, 0);
        x.steps(0, 1);
        x.unheard(0, 9);
        x.inCrowd(0, 1, 2);
        x.helpers();
        x.watch(0, 2);
        x.toBorder(0);
        x.heads(-1);
        x.heads(0);
        x.rests();
        x.mixed(true);
        x.befell(-1, 0);
        x.heirs(0);
        x.feared();
        x.wolves();
        x.whose();
        says.alike("all asked", x, y);
        says.is("undo()", x.undo(), y.undo()).alike("a step ahead", x, y);
    }

    private static WolfsHead asked() {
        WolfsHead x = Scene.village();
        Scene.outlaw(x, 0);
        x.crowd(0);
        x.borders(2);
        x.reports(3);
        x.unlike(0, 2);
        x.paid(0, 100);
        Scene.rule(x, "hungers 2;finds 3;");
        x.month(1);
        return x;
    }
}
