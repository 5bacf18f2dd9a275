/** Promises 10 to 15, sentence by sentence, where they name a bound or a refusal. */
public final class StepsEdgesTest {
    public static void main(String[] args) {
        calledWhom();
        calledThere();
        calledFiveTimes();
        calledOthers();
        moved();
        movedOthers();
        fedWhom();
        fedDraw();
        fedFourAtMost();
        fedOthers();
        killedWhom();
        killedByAnOutlaw();
        killedOthers();
        pardonedWhom();
        pardonedPrice();
        pardonedOthers();
        monthOthers();
        monthGoods();
        monthHunger();
        monthFound();
        monthDead();
        monthLast();
        writtenDown();
        Due.done();
    }

    private static void calledWhom() {
        Says says = new Says(10, "CALLED: a free or pardoned one");
        WolfsHead x = Scene.village();
        says.is("a free one", x.call(0, 1), 1);
        Scene.killAndPardon(x, 1, 2);
        int steps = x.about(4);
        says.is("a pardoned one", x.call(2, 1), 1).is("a pardoned one", x.call(2, 0), 0);
        says.is("pardoned yet", x.of(2, 7), 2);
        says.is("a dead one", x.call(1, 0), -1).is("a dead one", x.call(1, 1), -1);
        Scene.outlaw(x, 0);
        says.is("an outlaw", x.call(0, 0), -1).is("an outlaw", x.call(0, 1), -1);
        says.is("steps", x.about(4), steps + 6);
        Scene.outlaw(x, 2);
        says.is("a pardoned one is outlawed again", x.of(2, 7), 1);
    }

    private static void calledThere() {
        Says says = new Says(10, "is it there, it hears: CALLS are 0, it came to court");
        WolfsHead x = Scene.village();
        says.is("with no CALLS", x.call(0, 0), 0).is("a step", x.about(4), 1).is("written down", x.book(-1, 0), 1);
        for (int i = 1; i <= 4; i++) {
            x.call(0, 2);
        }
        says.is("four CALLS", x.of(0, 4), 4).is("heard", x.call(0, 0), 0).is("none any more", x.of(0, 4), 0);
        says.is("free", x.of(0, 7), 0).is("its goods", x.of(0, 2), 100).is("its debts", x.of(0, 3), 40);
        says.is("court", x.book(1, 2), 0).is("whom", x.book(1, 1), 0);
        x.move(0, 1);
        says.is("where it is now", x.call(0, 1), 0).is("where it was", x.call(0, 0), 1);
    }

    private static void calledFiveTimes() {
        Says says = new Says(10, "else CALLS are one more: at 5 it is outlawed: an outlaw, OUT, HUNGER, CALLS 0, "
            + "GOODS less by DEBTS are the king's: GOODS 0, DEBTS 0.");
        int[][] goods = {{100, 40}, {40, 100}, {70, 70}, {0, 9999}, {9999, 0}, {0, 0}, {9999, 9999}};
        for (int[] pair : goods) {
            WolfsHead x = Scene.row(0, 0);
            x.person(1, 6, pair[0], pair[1]);
            for (int i = 1; i <= 4; i++) {
                says.is("call " + i, x.call(0, 0), i).is("free", x.of(0, 7), 0).is("goods", x.of(0, 2), pair[0]);
            }
            says.is("not written down yet", x.book(-1, 0), 0).is("the fifth", x.call(0, 0), 0);
            int[] due = {1, 6, 0, 0, 0, 0, 0, 1};
            for (int what = 0; what < due.length; what++) {
                says.is("of(0, " + what + ")", x.of(0, what), due[what]);
            }
            says.is("written down", x.book(-1, 0), 1).is("outlawed", x.book(0, 2), 1).is("steps", x.about(4), 5);
        }
        WolfsHead y = Scene.village();
        Scene.outlaw(y, 0);
        Scene.rule(y, "finds 10;");
        for (int i = 0; i < 5; i++) {
            y.feeds(0, 1);
        }
        says.is("CALLS by bread count", y.of(1, 4), 4).is("the next is the fifth", y.call(1, 2), 0);
        says.is("outlawed", y.of(1, 7), 1);
    }

    private static void calledOthers() {
        Says says = new Says(10, "NONE, if it can't be, and for others.");
        WolfsHead x = Scene.village();
        says.is("call(-1, 0)", x.call(-1, 0), -1).is("call(5, 0)", x.call(5, 0), -1).is("call(6, 0)", x.call(6, 0), -1);
        says.is("call(0, -1)", x.call(0, -1), -1).is("call(0, 3)", x.call(0, 3), -1).is("call(0, 8)", x.call(0, 8), -1);
        for (int odd : Scene.ODD) {
            says.is("person " + odd, x.call(odd, 0), -1).is("land " + odd, x.call(0, odd), -1);
        }
        says.is("without persons", Scene.row(0).call(0, 0), -1).is("without lands", new WolfsHead().call(0, 0), -1);
        says.alike("nothing is done", x, Scene.village());
    }

    private static void moved() {
        Says says = new Says(11, "MOVED: one that isn't dead to a LAND that a ROAD leads to.");
        WolfsHead x = Scene.village();
        says.is("to itself", x.move(0, 0), false).is("no road", x.move(0, 2), false).is("no road", x.move(4, 0), false);
        says.is("no step", x.about(4), 0);
        says.is("a road", x.move(0, 1), true).is("there", x.of(0, 0), 1).is("a step", x.about(4), 1);
        says.is("the other way", x.move(0, 0), true).is("there", x.of(0, 0), 0);
        Scene.killAndPardon(x, 0, 1);
        Scene.outlaw(x, 2);
        int steps = x.about(4);
        says.is("a dead one", x.move(0, 1), false).is("it stays", x.of(0, 0), 0).is("no step", x.about(4), steps);
        says.is("a pardoned one", x.move(1, 1), true).is("an outlaw", x.move(2, 1), true);
        says.is("there", x.ofLand(1, 2), 0b1110).is("nothing written", x.befell(2, 0), 0);
        x.road(1, 2);
        says.is("a new road", x.move(2, 2), true).is("hunger, out, calls", x.of(2, 4) + x.of(2, 5) + x.of(2, 6), 0);
    }

    private static void movedOthers() {
        Says says = new Says(11, "False, if it can't be, and for others.");
        WolfsHead x = Scene.village();
        says.is("move(-1, 0)", x.move(-1, 0), false).is("move(5, 0)", x.move(5, 0), false);
        says.is("move(5, 1)", x.move(5, 1), false).is("move(6, 1)", x.move(6, 1), false);
        says.is("move(0, -1)", x.move(0, -1), false).is("move(0, 3)", x.move(0, 3), false);
        for (int odd : Scene.ODD) {
            says.is("person " + odd, x.move(odd, 1), false).is("land " + odd, x.move(0, odd), false);
        }
        says.alike("nothing is done", x, Scene.village());
    }

    private static void fedWhom() {
        Says says = new Says(12, "FED: an outlaw by another one that isn't dead, in the same LAND: HUNGER 0");
        WolfsHead x = Scene.village();
        says.is("a free one", x.feeds(0, 1), -1);
        Scene.killAndPardon(x, 0, 1);
        says.is("a dead one", x.feeds(0, 2), -1).is("a pardoned one", x.feeds(1, 2), -1);
        Scene.outlaw(x, 2);
        int steps = x.about(4);
        says.is("by itself", x.feeds(2, 2), -1).is("by a dead one", x.feeds(2, 0), -1);
        says.is("from another LAND", x.feeds(2, 3), -1).is("no step", x.about(4), steps);
        Scene.rule(x, "hungers 4;finds 0;");
        x.month(2);
        says.is("hunger 8", x.of(2, 5), 8).is("by a pardoned one", x.feeds(2, 1), 0).is("hunger 0", x.of(2, 5), 0);
        says.is("OUT stays", x.of(2, 6), 2).is("an outlaw yet", x.of(2, 7), 1).is("a step", x.about(4), steps + 3);
        says.is("again, not hungry", x.feeds(2, 1), 0).is("written each time", x.befell(2, 2), 2);
        x.move(3, 0);
        says.is("who came", x.feeds(2, 3), 0);
    }

    private static void fedDraw() {
        Says says = new Says(12, "if that one is free or pardoned: a draw by 10 (X mod 10, X being (X * 379 + 257) mod "
            + "30469 then): below the outlaw's finds (as then, HUNGER 0): that one's CALLS are one more");
        for (int finds = 0; finds <= 10; finds++) {
            WolfsHead x = Scene.village();
            Scene.outlaw(x, 0);
            Scene.rule(x, "finds " + finds + ";");
            int drawn = 149;
            int calls = 0;
            for (int i = 0; i < 8; i++) {
                calls = Math.min(4, calls + (drawn % 10 < finds ? 1 : 0));
                drawn = Scene.anew(drawn);
                says.is("finds " + finds + ", time " + i, x.feeds(0, 1), calls).is("X", x.is(1), drawn);
            }
            says.is("CALLS", x.of(1, 4), calls).is("the outlaw's CALLS", x.of(0, 4), 0);
        }
        WolfsHead y = Scene.village();
        Scene.outlaw(y, 0);
        Scene.outlaw(y, 1);
        says.is("by an outlaw", y.feeds(0, 1), 0).is("no draw", y.is(1), 149).is("written down", y.befell(0, 2), 1);
        Scene.rule(y, "finds if hunger=0 then 10 else 0 end;hungers 5;");
        y.month(1);
        int x = y.is(1);
        says.is("hungry", y.of(0, 5), 5).is("finds of hunger 0", y.feeds(0, 2), 1).is("one draw", y.is(1), Scene.anew(x));
        Scene.rule(y, "finds if who=0 then 10 else 0 end;");
        says.is("finds of whom", y.feeds(0, 2), 2);
        Scene.rule(y, "finds if who=2 then 10 else 0 end;");
        says.is("not of who feeds", y.feeds(0, 2), 2);
    }

    private static void fedFourAtMost() {
        Says says = new Says(12, "that one's CALLS are one more (4 at most).");
        WolfsHead x = Scene.village();
        Scene.outlaw(x, 0);
        Scene.rule(x, "finds 10;");
        for (int i = 1; i <= 6; i++) {
            says.is("bread " + i, x.feeds(0, 1), Math.min(i, 4)).is("CALLS", x.of(1, 4), Math.min(i, 4));
        }
        says.is("free", x.of(1, 7), 0).is("not outlawed", x.befell(1, 1), 0).is("its goods", x.of(1, 2), 200);
        for (int i = 0; i < 3; i++) {
            x.call(2, 1);
        }
        says.is("3 by calls", x.feeds(0, 2), 4).is("4", x.feeds(0, 2), 4);
    }

    private static void fedOthers() {
        Says says = new Says(12, "NONE, if it can't be, and for others.");
        WolfsHead x = Scene.village();
        WolfsHead y = Scene.village();
        Scene.outlaw(x, 0);
        Scene.outlaw(y, 0);
        says.is("feeds(-1, 0)", x.feeds(-1, 0), -1).is("feeds(0, -1)", x.feeds(0, -1), -1);
        says.is("feeds(0, 5)", x.feeds(0, 5), -1).is("feeds(5, 0)", x.feeds(5, 0), -1).is("feeds(0, 6)", x.feeds(0, 6), -1);
        for (int odd : Scene.ODD) {
            says.is("person " + odd, x.feeds(odd, 1), -1).is("by " + odd, x.feeds(0, odd), -1);
        }
        says.alike("nothing is done", x, y);
    }

    private static void killedWhom() {
        Says says = new Says(13, "KILLED: an outlaw by another one that isn't dead, in the same LAND: dead");
        WolfsHead x = Scene.village();
        says.is("a free one", x.kill(0, 1), false);
        Scene.killAndPardon(x, 0, 1);
        int steps = x.about(4);
        says.is("a dead one", x.kill(0, 2), false).is("a pardoned one", x.kill(1, 2), false).is("no step", x.about(4), steps);
        Scene.outlaw(x, 2);
        says.is("by itself", x.kill(2, 2), false).is("by a dead one", x.kill(2, 0), false);
        says.is("from another LAND", x.kill(2, 3), false).is("an outlaw yet", x.of(2, 7), 1);
        says.is("by a pardoned one", x.kill(2, 1), true).is("dead", x.of(2, 7), 3).is("it stays so", x.of(1, 7), 2);
        says.is("written down", x.befell(2, 5), 1).is("twice", x.kill(2, 1), false);
        WolfsHead y = Scene.village();
        Scene.outlaw(y, 0);
        says.is("by a free one", y.kill(0, 1), true).is("free yet", y.of(1, 7), 0).is("no draw", y.is(1), 149);
        says.is("its CALLS", y.of(1, 4), 0).is("steps", y.about(4), 6);
    }

    private static void killedByAnOutlaw() {
        Says says = new Says(13, "if that one is an outlaw itself, it is pardoned (OUT, HUNGER 0; not written down)");
        WolfsHead x = Scene.village();
        Scene.outlaw(x, 0);
        Scene.outlaw(x, 1);
        Scene.rule(x, "hungers 3;finds 0;");
        x.month(2);
        int written = x.book(-1, 0);
        says.is("hunger", x.of(1, 5), 6).is("out", x.of(1, 6), 2).is("kill(0, 1)", x.kill(0, 1), true);
        says.is("pardoned", x.of(1, 7), 2).is("hunger", x.of(1, 5), 0).is("out", x.of(1, 6), 0);
        says.is("one more in the book", x.book(-1, 0), written + 1).is("killed", x.book(written, 2), 5);
        says.is("whom", x.book(written, 1), 0).is("no pardon there", x.befell(-1, 6), 0);
        says.is("the dead one's hunger", x.of(0, 5), 6).is("the dead one's out", x.of(0, 6), 2);
    }

    private static void killedOthers() {
        Says says = new Says(13, "False, if it can't be, and for others.");
        WolfsHead x = Scene.village();
        WolfsHead y = Scene.village();
        Scene.outlaw(x, 0);
        Scene.outlaw(y, 0);
        says.is("kill(-1, 0)", x.kill(-1, 0), false).is("kill(0, -1)", x.kill(0, -1), false);
        says.is("kill(0, 5)", x.kill(0, 5), false).is("kill(5, 0)", x.kill(5, 0), false).is("kill(0, 6)", x.kill(0, 6), false);
        for (int odd : Scene.ODD) {
            says.is("person " + odd, x.kill(odd, 1), false).is("by " + odd, x.kill(0, odd), false);
        }
        says.alike("nothing is done", x, y);
    }

    private static void pardonedWhom() {
        Says says = new Says(14, "PARDONED: an outlaw by one that isn't dead (itself as well) who has GOODS for its price");
        WolfsHead x = Scene.village();
        says.is("a free one", x.pardon(0, 1), -1);
        Scene.killAndPardon(x, 0, 2);
        says.is("a dead one", x.pardon(0, 1), -1).is("a pardoned one", x.pardon(2, 1), -1);
        Scene.outlaw(x, 1);
        says.is("itself without GOODS", x.pardon(1, 1), -1);
        Scene.rule(x, "price 0;");
        int steps = x.about(4);
        says.is("by a dead one", x.pardon(1, 0), -1).is("no step", x.about(4), steps);
        says.is("itself, price 0", x.pardon(1, 1), 0).is("pardoned", x.of(1, 7), 2).is("a step", x.about(4), steps + 1);
        says.is("written down: whom", x.befell(1, 6), 1);
        Scene.outlaw(x, 1);
        says.is("from a LAND without a way", x.pardon(1, 4), 0);
        Scene.outlaw(x, 1);
        Scene.outlaw(x, 2);
        says.is("by another outlaw", x.pardon(1, 2), 0).is("that one as it was", x.of(2, 7), 1);
    }

    private static void pardonedPrice() {
        Says says = new Says(14, "who has GOODS for its price: these are less by price; pardoned, OUT 0, HUNGER 0.");
        int[] prices = {0, 1, 199, 200, 201, 4999, 5000, 5001, 9999};
        for (int price : prices) {
            WolfsHead x = Scene.village();
            Scene.outlaw(x, 0);
            Scene.rule(x, "hungers 4;finds 0;price " + price + ";earns 0;");
            x.month(2);
            int by = price <= 201 ? 1 : 3;
            int goods = by == 1 ? 200 : 5000;
            boolean can = goods >= price;
            says.is("price " + price, x.pardon(0, by), can ? price : -1);
            says.is("goods", x.of(by, 2), can ? goods - price : goods).is("how it is", x.of(0, 7), can ? 2 : 1);
            says.is("out", x.of(0, 6), can ? 0 : 2).is("hunger", x.of(0, 5), can ? 0 : 8);
            says.is("written down", x.befell(0, 6), can ? 1 : 0).is("steps", x.about(4), can ? 8 : 7);
            says.is("the payer's debts", x.of(by, 3), by == 1 ? 0 : 5000);
        }
        WolfsHead y = Scene.village();
        Scene.outlaw(y, 0);
        Scene.rule(y, "price who*100+fear;");
        says.is("the outlaw's price, not the payer's", y.pardon(0, 1), 3);
    }

    private static void pardonedOthers() {
        Says says = new Says(14, "NONE, if it can't be, and for others.");
        WolfsHead x = Scene.village();
        WolfsHead y = Scene.village();
        Scene.outlaw(x, 0);
        Scene.outlaw(y, 0);
        says.is("pardon(-1, 1)", x.pardon(-1, 1), -1).is("pardon(0, -1)", x.pardon(0, -1), -1);
        says.is("pardon(0, 5)", x.pardon(0, 5), -1).is("pardon(5, 1)", x.pardon(5, 1), -1);
        says.is("too little", x.pardon(0, 4), -1);
        for (int odd : Scene.ODD) {
            says.is("person " + odd, x.pardon(odd, 1), -1).is("by " + odd, x.pardon(0, odd), -1);
        }
        says.alike("nothing is done", x, y);
    }

    private static void monthOthers() {
        Says says = new Says(15, "MONTHS pass (1 .. 60): how many died in them. NONE for others");
        WolfsHead x = Scene.village();
        says.is("month(0)", x.month(0), -1).is("month(-1)", x.month(-1), -1).is("month(61)", x.month(61), -1);
        for (int odd : Scene.ODD) {
            says.is("month(" + odd + ")", x.month(odd), -1);
        }
        says.alike("nothing is done", x, Scene.village());
        says.is("month(1)", x.month(1), 0).is("MONTH", x.is(0), 1).is("month(60)", x.month(60), 0).is("MONTH", x.is(0), 61);
        WolfsHead y = new WolfsHead();
        says.is("without persons", y.month(60), 0).is("MONTH", y.is(0), 60).is("steps", y.about(4), 30);
        WolfsHead z = Scene.village();
        Scene.outlaw(z, 0);
        Scene.outlaw(z, 1);
        Scene.outlaw(z, 3);
        Scene.rule(z, "finds 0;hungers if who=1 then 6 else 3 end;");
        says.is("in the second", z.month(1), 0).is("one of three", z.month(1), 1).is("two more", z.month(60), 2);
        says.is("none any more", z.month(60), 0);
    }

    private static void monthGoods() {
        Says says = new Says(15, "GOODS are more by earns (9999 at most) if it isn't an outlaw");
        int[][] goods = {{0, 99}, {9899, 9998}, {9900, 9999}, {9901, 9999}, {9999, 9999}};
        for (int[] pair : goods) {
            WolfsHead x = Scene.row(0);
            x.person(0, 0, pair[0], 7);
            Scene.rule(x, "earns 99;");
            x.month(1);
            says.is("goods " + pair[0], x.of(0, 2), pair[1]).is("debts", x.of(0, 3), 7).is("no draw", x.is(1), 149);
        }
        WolfsHead y = Scene.village();
        Scene.killAndPardon(y, 0, 1);
        Scene.outlaw(y, 2);
        Scene.rule(y, "finds 0;hungers 0;");
        y.month(3);
        says.is("a dead one", y.of(0, 2), 0).is("a pardoned one", y.of(1, 2), 30).is("an outlaw", y.of(2, 2), 0);
        says.is("a free one", y.of(4, 2), 30);
    }

    private static void monthHunger() {
        Says says = new Says(15, "of an outlaw: HUNGER is more by hungers (9 at most); if it is 9: starved: dead");
        for (int hungers = 0; hungers <= 9; hungers++) {
            WolfsHead x = Scene.row(0, 0);
            x.person(0, 0, 0, 0);
            Scene.outlaw(x, 0);
            Scene.rule(x, "finds 0;hungers " + hungers + ";");
            int hunger = 0;
            for (int i = 0; i < 10; i++) {
                boolean dead = hunger == 9;
                hunger = Math.min(9, hunger + hungers);
                int dies = hunger == 9 && !dead ? 1 : 0;
                int drawn = x.is(1);
                says.is("hungers " + hungers + ", month " + i, x.month(1), dies).is("hunger", x.of(0, 5), hunger);
                says.is("how it is", x.of(0, 7), hunger == 9 ? 3 : 1);
                says.is("a draw by whom isn't starved", x.is(1), hunger == 9 ? drawn : Scene.anew(drawn));
            }
            int lived = hungers == 0 ? 10 : 8 / hungers;
            says.is("out", x.of(0, 6), lived).is("starved", x.befell(0, 3), hungers == 0 ? 0 : 1);
            says.is("not found", x.befell(0, 4), 0);
        }
        WolfsHead y = Scene.row(0, 0);
        y.person(0, 0, 0, 0);
        Scene.outlaw(y, 0);
        Scene.rule(y, "finds 10;hungers 9;");
        says.is("starved ahead of found", y.month(1), 1).is("starved", y.book(1, 2), 3).is("one entry", y.book(-1, 0), 2);
    }

    private static void monthFound() {
        Says says = new Says(15, "else a draw by 10: below finds: found: dead; else OUT is one more.");
        for (int finds = 0; finds <= 10; finds++) {
            WolfsHead x = Scene.row(0, 0);
            x.person(0, 0, 0, 0);
            Scene.outlaw(x, 0);
            Scene.rule(x, "hungers 0;finds " + finds + ";");
            int drawn = 149;
            int out = 0;
            boolean dead = false;
            for (int i = 0; i < 12; i++) {
                boolean found = !dead && drawn % 10 < finds;
                out += dead || found ? 0 : 1;
                drawn = dead ? drawn : Scene.anew(drawn);
                dead = dead || found;
                says.is("finds " + finds + ", month " + i, x.month(1), found ? 1 : 0).is("X", x.is(1), drawn);
                says.is("out", x.of(0, 6), out).is("how it is", x.of(0, 7), dead ? 3 : 1);
            }
            says.is("written down", x.befell(0, 4), dead ? 1 : 0);
        }
        WolfsHead y = Scene.row(0, 0);
        y.person(0, 0, 0, 0);
        Scene.outlaw(y, 0);
        Scene.rule(y, "hungers 2;finds if hunger=2 then 10 else 0 end;");
        says.is("by the new HUNGER", y.month(1), 1);
    }

    private static void monthDead() {
        Says says = new Says(15, "A MONTH: by PERSONS that aren't dead");
        WolfsHead x = Scene.village();
        Scene.killAndPardon(x, 0, 1);
        int[] due = new int[8];
        for (int what = 0; what < 8; what++) {
            due[what] = x.of(0, what);
        }
        says.is("none die", x.month(60), 0).is("no draw", x.is(1), 149);
        for (int what = 0; what < 8; what++) {
            says.is("of(0, " + what + ")", x.of(0, what), due[what]);
        }
        WolfsHead y = Scene.village();
        for (int person = 0; person < 3; person++) {
            Scene.outlaw(y, person);
        }
        Scene.rule(y, "hungers 0;finds crowd*5;");
        // the first two of three are sure to be found, or not, by who is left of them
        int drawn = 149;
        int left = 3;
        for (int person = 0; person < 3; person++) {
            left -= drawn % 10 < (left - 1) * 5 ? 1 : 0;
            drawn = Scene.anew(drawn);
        }
        says.is("one behind the other", y.month(1), 3 - left).is("X", y.is(1), drawn);
    }

    private static void monthLast() {
        Says says = new Says(15, "NONE for others, or beyond 9999 (nothing is done then).");
        WolfsHead x = Scene.late(Scene.village());
        says.is("month(40)", x.month(40), -1).is("MONTH", x.is(0), 9960).is("month(60)", x.month(60), -1);
        says.is("MONTH", x.is(0), 9960).is("goods", x.of(4, 2), 9999).is("month(38)", x.month(38), 0);
        says.is("month(2)", x.month(2), -1).is("MONTH", x.is(0), 9998).is("month(1)", x.month(1), 0);
        Says last = new Says(15, "MONTH is one more (at 9999 none can pass).");
        last.is("MONTH", x.is(0), 9999).is("month(1)", x.month(1), -1).is("steps", x.about(4), 30);
        last.is("undo()", x.undo(), 29).is("MONTH", x.is(0), 9998).is("month(1)", x.month(1), 0);
        last.is("a call yet", x.call(4, 2), 0).is("its MONTH", x.book(0, 0), 9999).is("a move yet", x.move(0, 1), true);
    }

    private static void writtenDown() {
        Says says = new Says(22, "Each of these (starved, found) is written down, as FED, KILLED, PARDONED (whom), court "
            + "and outlawing are when they come.");
        WolfsHead x = Scene.village();
        x.month(1);
        x.call(4, 2);
        Scene.outlaw(x, 0);
        Scene.outlaw(x, 1);
        x.feeds(1, 2);
        x.pardon(1, 3);
        Scene.outlaw(x, 1);
        Scene.rule(x, "finds 0;hungers if who=1 then 9 else 0 end;");
        x.month(1);
        Scene.outlaw(x, 2);
        x.move(3, 0);
        x.kill(2, 3);
        Scene.rule(x, "finds 10;hungers 0;");
        x.month(1);
        int[][] due = {{1, 4, 0}, {1, 0, 1}, {1, 1, 1}, {1, 1, 2}, {1, 1, 6}, {1, 1, 1}, {1, 1, 3}, {2, 2, 1}, {2, 2, 5},
            {2, 0, 4}};
        says.is("how many", x.book(-1, 0), due.length);
        for (int i = 0; i < due.length; i++) {
            for (int what = 0; what < 3; what++) {
                says.is("book(" + i + ", " + what + ")", x.book(i, what), due[i][what]);
            }
        }
    }
}
