/** Promises 10 to 18 and 22: steps, by hand, by scripts and by reigns, and taken back. */
public final class StepsTest {
    public static void main(String[] args) {
        call();
        move();
        feeds();
        kill();
        pardon();
        month();
        lastMonth();
        played();
        reigns();
        undo();
        undoAfterTelling();
        book();
        Due.done();
    }

    /** Three lands in a row of roads, four persons. */
    private static WolfsHead village() {
        WolfsHead x = new WolfsHead();
        x.land(4);
        x.land(9);
        x.land(0);
        x.road(0, 1);
        x.road(1, 2);
        x.person(0, 3, 100, 40);
        x.person(0, 5, 200, 0);
        x.person(2, 0, 50, 60);
        x.person(0, 7, 9990, 1);
        return x;
    }

    private static void outlaw(WolfsHead x, int person) {
        int away = x.of(person, 0) == 0 ? 1 : 0;
        for (int i = 0; i < 5 && x.of(person, 7) != 1; i++) {
            x.call(person, away);
        }
        Due.is("an outlaw", x.of(person, 7), 1);
    }

    private static void rule(WolfsHead x, String text) {
        Due.is("a text", Due.text(x, text) >= 0, true);
        x.by(x.about(2) - 1);
    }

    private static void call() {
        WolfsHead x = village();
        for (int i = 1; i < 5; i++) {
            Due.is("P10 not heard", x.call(0, 2), i);
        }
        Due.is("P10 heard", x.call(0, 0), 0);
        Due.is("P10 came to court", x.book(0, 2), 0);
        Due.is("P10 steps", x.about(4), 5);
        for (int i = 1; i < 5; i++) {
            Due.is("P10 not heard again", x.call(0, 1), i);
        }
        Due.is("P10 still free", x.of(0, 7), 0);
        Due.is("P10 the fifth", x.call(0, 1), 0);
        int[] then = {0, 3, 0, 0, 0, 0, 0, 1};
        for (int what = 0; what < 8; what++) {
            Due.is("P10 outlawed: of " + what, x.of(0, what), then[what]);
        }
        Due.is("P10 written down", x.book(1, 2), 1);
        Due.is("P10 an outlaw isn't called", x.call(0, 0), -1);
        Due.is("P10 others", x.call(4, 0), -1);
        Due.is("P10 others", x.call(-1, 0), -1);
        Due.is("P10 others", x.call(1, 3), -1);
        Due.is("P10 others", x.call(1, -1), -1);
        Due.is("P10 no step", x.about(4), 10);
        x.pardon(0, 3);
        Due.is("P10 a pardoned one", x.call(0, 2), 1);
        Due.is("P10 a pardoned one hears", x.call(0, 0), 0);
        Due.is("P10 pardoned as before", x.of(0, 7), 2);
        outlaw(x, 0);
        x.kill(0, 1);
        Due.is("P10 a dead one", x.call(0, 0), -1);
    }

    private static void move() {
        WolfsHead x = village();
        Due.is("P11 no road", x.move(0, 2), false);
        Due.is("P11 to itself", x.move(0, 0), false);
        Due.is("P11 others", x.move(0, 3), false);
        Due.is("P11 others", x.move(0, -1), false);
        Due.is("P11 others", x.move(4, 1), false);
        Due.is("P11 others", x.move(-1, 1), false);
        Due.is("P11 no step", x.about(4), 0);
        Due.is("P11 moved", x.move(0, 1), true);
        Due.is("P11 there", x.of(0, 0), 1);
        Due.is("P11 moved on", x.move(0, 2), true);
        Due.is("P11 there", x.ofLand(2, 2), 5);
        Due.is("P11 steps", x.about(4), 2);
        Due.is("P11 not written down", x.book(-1, 0), 0);
        outlaw(x, 1);
        Due.is("P11 an outlaw", x.move(1, 1), true);
        x.move(3, 1);
        x.kill(1, 3);
        Due.is("P11 a dead one", x.move(1, 0), false);
        Due.is("P20 a dead one isn't there", x.ofLand(1, 2), 8);
    }

    private static void feeds() {
        WolfsHead x = village();
        Due.is("P12 a free one", x.feeds(0, 1), -1);
        outlaw(x, 0);
        rule(x, "hungers 2;finds 0;");
        x.month(1);
        Due.is("P12 hungry", x.of(0, 5), 2);
        int before = x.is(1);
        Due.is("P12 fed, not seen", x.feeds(0, 1), 0);
        Due.is("P12 a draw", x.is(1), (before * 379 + 257) % 30469);
        Due.is("P12 no hunger", x.of(0, 5), 0);
        Due.is("P12 out stays", x.of(0, 6), 1);
        Due.is("P12 written down", x.book(x.book(-1, 0) - 1, 2), 2);
        Due.is("P12 whom", x.book(x.book(-1, 0) - 1, 1), 0);
        rule(x, "finds 10;");
        for (int i = 1; i < 7; i++) {
            Due.is("P12 fed and seen", x.feeds(0, 1), Math.min(i, 4));
        }
        Due.is("P12 calls", x.of(1, 4), 4);
        Due.is("P12 never outlawed by it", x.of(1, 7), 0);
        Due.is("P12 in another land", x.feeds(0, 2), -1);
        Due.is("P12 by itself", x.feeds(0, 0), -1);
        Due.is("P12 others", x.feeds(0, 4), -1);
        Due.is("P12 others", x.feeds(4, 0), -1);
        Due.is("P12 others", x.feeds(-1, 0), -1);
        Due.is("P12 others", x.feeds(0, -1), -1);
        outlaw(x, 3);
        before = x.is(1);
        Due.is("P12 by an outlaw", x.feeds(0, 3), 0);
        Due.is("P12 without a draw", x.is(1), before);
        x.kill(3, 1);
        Due.is("P12 by a dead one", x.feeds(0, 3), -1);
        Due.is("P12 a dead one", x.feeds(3, 1), -1);
        x.move(0, 1);
        x.move(0, 2);
        rule(x, "hungers 3;finds if hunger=0 then 10 else 0 end;");
        x.month(1);
        Due.is("P12 hungry again", x.of(0, 5), 3);
        Due.is("P12 finds of hunger 0", x.feeds(0, 2), 1);
    }

    /** X is 149, 26259, 19524, 26355, 25439, 13434, 3420, ...: draws of 9, 9, 4, 5, 9, 4, 0. */
    private static void kill() {
        WolfsHead x = village();
        Due.is("P13 a free one", x.kill(0, 1), false);
        outlaw(x, 0);
        Due.is("P13 by itself", x.kill(0, 0), false);
        Due.is("P13 in another land", x.kill(0, 2), false);
        Due.is("P13 others", x.kill(0, 4), false);
        Due.is("P13 others", x.kill(4, 0), false);
        Due.is("P13 others", x.kill(-1, 1), false);
        Due.is("P13 others", x.kill(0, -1), false);
        outlaw(x, 1);
        rule(x, "finds 0;");
        x.month(2);
        int steps = x.about(4);
        Due.is("P13 by an outlaw", x.kill(0, 1), true);
        Due.is("P13 dead", x.of(0, 7), 3);
        Due.is("P13 pardoned by it", x.of(1, 7), 2);
        Due.is("P13 out", x.of(1, 6), 0);
        Due.is("P13 hunger", x.of(1, 5), 0);
        Due.is("P13 the dead one's hunger stays", x.of(0, 5), 2);
        Due.is("P13 a step", x.about(4), steps + 1);
        Due.is("P13 written down", x.befell(0, 5), 1);
        Due.is("P13 that isn't", x.befell(1, 6), 0);
        Due.is("P13 dead already", x.kill(0, 1), false);
        Due.is("P13 by a dead one", x.kill(1, 0), false);
        outlaw(x, 3);
        Due.is("P13 by a pardoned one", x.kill(3, 1), true);
        Due.is("P13 as it was", x.of(1, 7), 2);
        x.undo();
        Due.is("P18 a killing", x.of(3, 7), 1);
        Due.is("P18 a killing", x.befell(3, 5), 0);
        Due.is("P18 its calls stay", x.befell(3, 1), 1);
    }

    private static void pardon() {
        WolfsHead x = village();
        Due.is("P14 a free one", x.pardon(0, 1), -1);
        outlaw(x, 0);
        rule(x, "finds 0;");
        x.month(2);
        Due.is("P14 price", x.of(0, 10), 140);
        Due.is("P14 without goods for it", x.pardon(0, 2), -1);
        Due.is("P14 itself without goods", x.pardon(0, 0), -1);
        Due.is("P14 others", x.pardon(0, 4), -1);
        Due.is("P14 others", x.pardon(4, 1), -1);
        Due.is("P14 others", x.pardon(0, -1), -1);
        Due.is("P14 others", x.pardon(-1, 0), -1);
        x.move(1, 1);
        Due.is("P14 from another land", x.pardon(0, 1), 140);
        Due.is("P14 goods", x.of(1, 2), 80);
        int[] then = {0, 3, 0, 0, 0, 0, 0, 2};
        for (int what = 0; what < 8; what++) {
            Due.is("P14 pardoned: of " + what, x.of(0, what), then[what]);
        }
        Due.is("P14 written down", x.befell(0, 6), 1);
        Due.is("P14 pardoned already", x.pardon(0, 3), -1);
        x.undo();
        Due.is("P18 a pardon", x.of(0, 7), 1);
        Due.is("P18 a pardon", x.of(0, 6), 2);
        Due.is("P18 a pardon", x.of(1, 2), 220);
        Due.is("P14 again", x.pardon(0, 1), 140);
        rule(x, "price 80;");
        outlaw(x, 0);
        Due.is("P14 just enough", x.pardon(0, 1), 80);
        Due.is("P14 nothing left", x.of(1, 2), 0);
        outlaw(x, 0);
        rule(x, "price 0;");
        Due.is("P14 itself for nothing", x.pardon(0, 0), 0);
        outlaw(x, 0);
        outlaw(x, 3);
        x.kill(3, 0);
        outlaw(x, 0);
        Due.is("P14 by a dead one", x.pardon(0, 3), -1);
        Due.is("P14 a dead one", x.pardon(3, 0), -1);
        Due.is("P14 by an outlaw", x.pardon(0, 0), 0);
    }

    private static void month() {
        WolfsHead x = village();
        Due.is("P15 others", x.month(0), -1);
        Due.is("P15 others", x.month(61), -1);
        Due.is("P15 others", x.month(-1), -1);
        Due.is("P15 no step", x.about(4), 0);
        Due.is("P15 one", x.month(1), 0);
        Due.is("P15 earned", x.of(0, 2), 110);
        Due.is("P15 9999 at most", x.of(3, 2), 9999);
        Due.is("P15 no draw", x.is(1), 149);
        outlaw(x, 0);
        Due.is("P15 six more", x.month(6), 0);
        Due.is("P15 an outlaw earns nothing", x.of(0, 2), 0);
        Due.is("P15 hunger", x.of(0, 5), 6);
        Due.is("P15 out", x.of(0, 6), 6);
        Due.is("P15 a draw each", x.is(1), 3420);
        Due.is("P15 found in the seventh", x.month(1), 1);
        Due.is("P15 dead", x.of(0, 7), 3);
        Due.is("P15 hungry as it was", x.of(0, 5), 7);
        Due.is("P15 out as it was", x.of(0, 6), 6);
        Due.is("P15 written down: month", x.book(1, 0), 7);
        Due.is("P15 written down: person", x.book(1, 1), 0);
        Due.is("P15 written down: found", x.book(1, 2), 4);
        Due.is("P15 each a step", x.about(4), 13);
        Due.is("P15 the dead earn nothing", x.month(60), 0);
        Due.is("P15 the dead earn nothing", x.of(0, 2), 0);
        Due.is("P15 month", x.is(0), 68);
        starve();
        oneBehindTheOther();
    }

    private static void starve() {
        WolfsHead x = village();
        outlaw(x, 0);
        outlaw(x, 1);
        rule(x, "hungers 4;finds 0;");
        Due.is("P15 hunger 8", x.month(2), 0);
        Due.is("P15 hunger 8", x.of(0, 5), 8);
        int before = x.is(1);
        Due.is("P15 both starve", x.month(1), 2);
        Due.is("P15 9 at most", x.of(0, 5), 9);
        Due.is("P15 out as it was", x.of(0, 6), 2);
        Due.is("P15 without a draw", x.is(1), before);
        Due.is("P15 starved", x.befell(-1, 3), 2);
        Due.is("P15 not found", x.befell(-1, 4), 0);
        WolfsHead y = village();
        outlaw(y, 0);
        rule(y, "hungers 9;finds 10;");
        y.month(1);
        Due.is("P15 starved ahead of found", y.befell(0, 3), 1);
    }

    /** A death counts at once for who comes behind it. */
    private static void oneBehindTheOther() {
        WolfsHead x = village();
        outlaw(x, 0);
        outlaw(x, 1);
        rule(x, "finds if crowd>1 then 10 else 0 end;earns crowd;");
        Due.is("P15 the first alone", x.month(1), 1);
        Due.is("P15 the first", x.of(0, 7), 3);
        Due.is("P15 the second", x.of(1, 7), 1);
        Due.is("P15 earned by whom is left", x.of(3, 2), 9991);
        rule(x, "hungers hunger+1;finds if hunger=3 then 10 else 0 end;");
        Due.is("P15 finds by the new hunger", x.month(1), 1);
    }

    private static void lastMonth() {
        WolfsHead x = new WolfsHead();
        for (int i = 0; i < 166; i++) {
            x.month(60);
        }
        x.land(0);
        x.land(0);
        x.person(0, 0, 0, 0);
        Due.is("P15 9960", x.is(0), 9960);
        Due.is("P15 beyond", x.month(40), -1);
        Due.is("P15 nothing is done", x.is(0), 9960);
        x.image();
        Due.is("P15 to the last", x.month(39), 0);
        Due.is("P15 the last", x.is(0), 9999);
        Due.is("P15 none can pass", x.month(1), -1);
        Due.is("P23 none can pass", x.foretold(9, 0, true), 390);
        Due.is("P17 nor in reigns", x.reigns(2, 1), 9999);
        outlaw(x, 0);
        Due.is("P24 none can pass", x.toPay(0, 0), -1);
        Due.is("P23 none can pass", x.foretold(60, 0, false), 1);
        x.back();
        Due.is("P23 those that can", x.foretold(60, 0, true), 390);
        Due.text(x, "month 30;month 30;land 1;");
        Due.is("P16 the second can't", x.played(0), 1);
        Due.is("P16 those that can pass do", x.is(0), 9999);
        Due.is("P16 it ended", x.about(0), 2);
        Due.is("P16 steps", x.about(4), 30);
        Due.is("P16 steps", x.undo(), 29);
        Due.is("P16 one taken back", x.is(0), 9998);
        x.undo();
        Due.text(x, "month 2;land 1;");
        Due.is("P16 all can", x.played(1), -1);
        Due.is("P16 all can", x.is(0), 9999);
    }

    private static void played() {
        WolfsHead x = new WolfsHead();
        Due.is("P16 others", x.played(0), -2);
        Due.text(x, "land 3;earns 5;land 4;road 0 to 1;person 0 fear 1 goods 200 debts 3;person 1 fear 0 goods 0 debts 0;"
            + "call 1 in 0;call 1 in 0;call 1 in 0;call 1 in 0;call 1 in 0;move 1 to 0;feed 1 by 0;month 1;pardon 1 by 0;");
        Due.is("P16 others", x.played(1), -2);
        Due.is("P16 others", x.played(-1), -2);
        Due.is("P16 all", x.played(0), -1);
        Due.is("P16 its own laws don't rule", x.of(0, 2), 90);
        Due.is("P16 pardoned", x.of(1, 7), 2);
        Due.is("P16 fed", x.befell(1, 2), 1);
        Due.is("P16 steps", x.about(4), 9);
        Due.is("P16 lands", x.about(0), 2);
        Due.is("P16 again: roads are there", x.played(0), 3);
        Due.is("P16 what was done stays", x.about(0), 4);
        Due.text(x, "hungers 1;kill 0 by 1;land 1;");
        Due.is("P16 the number among all", x.played(1), 1);
        Due.is("P16 it ended", x.about(0), 4);
        Due.text(x, "");
        Due.is("P16 an empty one", x.played(2), -1);
        String[] cannot = {"person 7 fear 1 goods 1 debts 1;", "call 5 in 0;", "call 0 in 7;", "move 0 to 3;",
            "feed 0 by 1;", "kill 0 by 1;", "pardon 0 by 1;", "road 1 to 1;", "road 0 to 7;"};
        for (String clause : cannot) {
            WolfsHead y = village();
            Due.text(y, "land 5;" + clause + "land 5;");
            Due.is("P16 " + clause, y.played(0), 1);
            Due.is("P16 " + clause, y.about(0), 4);
        }
    }

    private static void reigns() {
        WolfsHead x = new WolfsHead();
        x.land(3);
        Due.is("P17 without persons", x.reigns(0, 1), -1);
        x = village();
        Due.is("P17 others", x.reigns(-1, 1), -1);
        Due.is("P17 others", x.reigns(10000, 1), -1);
        Due.is("P17 others", x.reigns(0, 0), -1);
        Due.is("P17 others", x.reigns(0, 41), -1);
        Due.is("P17 nothing is done", x.is(1), 149);
        Due.is("P17 no step", x.about(4), 0);
        Due.is("P17 seed 0: 149, moved", x.reigns(0, 1), 0);
        Due.is("P17 seed 0: person 1", x.of(1, 0), 0);
        Due.is("P17 X anew", x.is(1), 26259);
        Due.is("P17 a step", x.about(4), 1);
        Due.is("P17 seed 2: 153, a month", x.reigns(2, 1), 1);
        Due.is("P17 seed 3: 155, called", x.reigns(3, 1), 1);
        Due.is("P17 of person 3 in land 1", x.of(3, 4), 1);
        Due.is("P17 seed 9999: 20147, called", x.reigns(9999, 1), 1);
        Due.is("P17 of person 3 in land 1", x.of(3, 4), 2);
        Due.is("P17 steps", x.about(4), 4);
        Due.is("P17 40 times", x.reigns(7, 40) >= 1, true);
        Due.is("P17 one step", x.about(4), 5);
        Due.is("P18 taken back", x.undo(), 4);
        Due.is("P18 month", x.is(0), 1);
        Due.is("P18 X", x.is(1), (20147 * 379 + 257) % 30469);
        reignsOfOutlaws();
    }

    /** Seeds that tell one deed each: x mod 7 is 2, 3, 4 or 5. */
    private static void reignsOfOutlaws() {
        WolfsHead x = village();
        outlaw(x, 0);
        rule(x, "hungers 1;finds 0;");
        x.month(1);
        x.image();
        for (int seed = 0; seed < 2000; seed++) {
            int v = seed * 2 + 149;
            reignOnce(x, seed, v);
            x.back();
            if (v % 7 == 4) {
                reignTwice(x, seed, (v * 379 + 257) % 30469);
                x.back();
            }
        }
    }

    /** A first x is odd, so that its killing never is: the second's may be. */
    private static void reignTwice(WolfsHead x, int seed, int v) {
        boolean meets = v % 4 == 0 && (v / 5 % 4 & 1) == 1;
        x.reigns(seed, 2);
        Due.is("P17 killed by " + seed, x.befell(-1, 5), v % 7 == 4 && v % 4 == 0 && meets ? 1 : 0);
        Due.is("P17 dead by " + seed, x.of(0, 7), v % 7 == 4 && meets ? 3 : x.befell(0, 6) == 1 ? 2 : 1);
    }

    private static void reignOnce(WolfsHead x, int seed, int v) {
        int whom = v % 4;
        int by = v / 5 % 4;
        int land = v / 7 % 3;
        boolean meets = whom == 0 && (by == 1 || by == 3);
        int from = x.of(whom, 0);
        x.reigns(seed, 1);
        int kind = v % 7;
        int due = kind == 2 && Math.abs(from - land) == 1 ? land : from;
        Due.is("P17 land by " + seed, x.of(whom, 0), due);
        Due.is("P17 fed by " + seed, x.befell(-1, 2), kind == 3 && meets ? 1 : 0);
        Due.is("P17 not killed by " + seed, x.befell(-1, 5), 0);
        Due.is("P17 pardoned by " + seed, x.befell(-1, 6), kind == 5 && whom == 0 && (by & 1) == 1 ? 1 : 0);
        Due.is("P17 month by " + seed, x.is(0), kind == 6 ? 2 : 1);
    }

    private static void undo() {
        WolfsHead x = village();
        Due.is("P18 none", x.undo(), -1);
        outlaw(x, 0);
        x.month(3);
        x.feeds(0, 1);
        int month = x.is(0);
        int drawn = x.is(1);
        x.move(0, 1);
        Due.is("P18 a move", x.undo(), 9);
        Due.is("P18 land", x.of(0, 0), 0);
        Due.is("P18 bread", x.undo(), 8);
        Due.is("P18 hunger", x.of(0, 5), 3);
        Due.is("P18 book", x.book(-1, 0), 1);
        Due.is("P18 X is as ahead", x.is(1) != drawn, true);
        Due.is("P18 a month", x.undo(), 7);
        Due.is("P18 month", x.is(0), month - 1);
        x.undo();
        x.undo();
        Due.is("P18 the outlawing", x.undo(), 4);
        Due.is("P18 free", x.of(0, 7), 0);
        Due.is("P18 goods", x.of(0, 2), 100);
        Due.is("P18 debts", x.of(0, 3), 40);
        Due.is("P18 calls", x.of(0, 4), 4);
        Due.is("P18 book", x.book(-1, 0), 0);
        for (int i = 3; i >= 0; i--) {
            Due.is("P18 calls", x.undo(), i);
        }
        Due.is("P18 no more", x.undo(), -1);
        Due.is("P18 X", x.is(1), 149);
        for (int i = 0; i < 33; i++) {
            x.month(1);
        }
        Due.is("P18 30 at most", x.about(4), 30);
        for (int i = 29; i >= 0; i--) {
            Due.is("P18 the latest first", x.undo(), i);
        }
        Due.is("P18 the elder ones stay", x.is(0), 3);
        Due.is("P18 none", x.undo(), -1);
        Due.is("P18 month(60) is 60 steps", x.month(60), 0);
        Due.is("P18 month(60) is 60 steps", x.undo(), 29);
        Due.is("P18 month(60) is 60 steps", x.is(0), 62);
    }

    private static void undoAfterTelling() {
        WolfsHead x = village();
        x.month(1);
        x.land(8);
        x.road(0, 3);
        x.person(3, 6, 70, 80);
        x.move(4, 0);
        x.month(2);
        outlaw(x, 4);
        x.undo();
        Due.is("P18 of a later one", x.of(4, 4), 4);
        for (int i = 0; i < 7; i++) {
            x.undo();
        }
        Due.is("P18 as told", x.of(4, 0), 3);
        x.undo();
        int[] told = {3, 6, 70, 80, 0, 0, 0, 0};
        for (int what = 0; what < 8; what++) {
            Due.is("P18 as told: of " + what, x.of(4, what), told[what]);
        }
        Due.is("P18 all taken back", x.about(4), 0);
        Due.is("P18 the persons stay", x.about(1), 5);
        Due.is("P18 the lands stay", x.about(0), 4);
        Due.is("P18 the roads stay", x.ofLand(3, 1), 1);
        Due.is("P18 the first", x.of(0, 2), 100);
        WolfsHead y = village();
        y.month(1);
        y.person(0, 6, 70, 80);
        outlaw(y, 4);
        y.kill(4, 0);
        for (int i = 0; i < 7; i++) {
            y.undo();
        }
        Due.is("P18 alive again", y.of(4, 7), 0);
        Due.is("P18 its goods again", y.of(4, 2), 70);
    }

    private static void book() {
        WolfsHead x = village();
        for (int i = 0; i < 35; i++) {
            x.call(i % 2, 0);
            Due.is("P22 how many", x.book(-1, 0), Math.min(i + 1, 30));
            x.month(1);
        }
        Due.is("P22 the eldest", x.book(0, 0), 5);
        Due.is("P22 the eldest", x.book(0, 1), 1);
        Due.is("P22 the eldest", x.book(0, 2), 0);
        Due.is("P22 the latest", x.book(29, 0), 34);
        Due.is("P22 the latest", x.book(29, 1), 0);
        Due.is("P22 none such", x.book(30, 0), -2);
        Due.is("P22 none such", x.book(-2, 0), -2);
        Due.is("P22 others", x.book(0, 3), -2);
        Due.is("P22 others", x.book(0, -1), -2);
        x.undo();
        x.undo();
        Due.is("P22 the eldest is there again", x.book(0, 0), 4);
        Due.is("P22 as many", x.book(-1, 2), 30);
    }
}
