/** Promises 23 to 29: what comes, the surest way, who hears, who may have been in the crowd. */
public final class ForetellingTest {
    public static void main(String[] args) {
        foretold();
        toPay();
        surest();
        surestDeath();
        steps();
        unheard();
        crowd();
        inCrowd();
        Due.done();
    }

    private static WolfsHead row(int... forests) {
        WolfsHead x = new WolfsHead();
        for (int i = 0; i < forests.length; i++) {
            x.land(forests[i]);
            x.road(i - 1, i);
        }
        return x;
    }

    private static void outlaw(WolfsHead x, int person) {
        int away = x.of(person, 0) == 0 ? 1 : 0;
        for (int i = 0; i < 5; i++) {
            x.call(person, away);
        }
        Due.is("an outlaw", x.of(person, 7), 1);
    }

    private static void rule(WolfsHead x, String text) {
        Due.is("a text", Due.text(x, text) >= 0, true);
        x.by(x.about(2) - 1);
    }

    private static void foretold() {
        WolfsHead x = row(4, 9);
        x.person(0, 0, 0, 0);
        x.person(1, 0, 9, 0);
        outlaw(x, 0);
        Due.is("P23 others", x.foretold(0, 0, false), -1);
        Due.is("P23 others", x.foretold(61, 0, false), -1);
        Due.is("P23 others", x.foretold(1, 2, false), -1);
        Due.is("P23 others", x.foretold(1, -1, true), -1);
        Due.is("P23 alive", x.foretold(6, 0, false), 1);
        Due.is("P23 found in the seventh", x.foretold(7, 0, false), 3);
        Due.is("P23 goods", x.foretold(60, 1, true), 609);
        Due.is("P23 free", x.foretold(60, 1, false), 0);
        Due.is("P23 nothing is changed", x.is(0), 0);
        Due.is("P23 nothing is changed", x.is(1), 149);
        Due.is("P23 nothing is changed", x.of(0, 7), 1);
        Due.is("P23 nothing is changed", x.of(1, 2), 9);
        Due.is("P23 nothing is changed", x.book(-1, 0), 1);
        Due.is("P23 nothing is changed", x.about(4), 5);
        x.month(7);
        Due.is("P23 so it came", x.of(0, 7), 3);
        Due.is("P23 so it came", x.of(1, 2), 79);
    }

    private static void toPay() {
        WolfsHead x = row(4, 9);
        x.person(0, 0, 0, 0);
        x.person(1, 0, 70, 0);
        x.person(1, 0, 50, 0);
        Due.is("P24 a free one", x.toPay(0, 1), -1);
        outlaw(x, 0);
        rule(x, "finds 0;hungers 0;price 100;");
        Due.is("P24 in 3", x.toPay(0, 1), 3);
        Due.is("P24 in 5", x.toPay(0, 2), 5);
        Due.is("P24 itself, never", x.toPay(0, 0), -1);
        Due.is("P24 others", x.toPay(0, 3), -1);
        Due.is("P24 others", x.toPay(3, 0), -1);
        Due.is("P24 others", x.toPay(-1, 0), -1);
        Due.is("P24 others", x.toPay(0, -1), -1);
        Due.is("P24 nothing is changed", x.is(0), 0);
        rule(x, "finds 0;hungers 0;price 670;");
        Due.is("P24 in 60", x.toPay(0, 1), 60);
        rule(x, "finds 0;hungers 0;price 671;");
        Due.is("P24 in 61: none", x.toPay(0, 1), -1);
        x.by(0);
        x.by(-1);
        Due.is("P24 the price grows faster", x.toPay(0, 1), -1);
        x.back();
        x = row(4, 9);
        x.person(0, 0, 0, 0);
        x.person(1, 0, 30, 0);
        outlaw(x, 0);
        rule(x, "finds 0;hungers 3;price 50;");
        Due.is("P24 ahead of its death", x.toPay(0, 1), 2);
        rule(x, "finds 0;hungers 3;price 60;");
        Due.is("P24 dead by then", x.toPay(0, 1), -1);
        rule(x, "finds 0;hungers 0;price 0;");
        Due.is("P24 for nothing", x.toPay(0, 1), 0);
        Due.is("P24 itself for nothing", x.toPay(0, 0), 0);
        x.person(0, 0, 0, 0);
        outlaw(x, 2);
        x.kill(0, 2);
        Due.is("P24 a dead one", x.toPay(0, 1), -1);
        outlaw(x, 2);
        Due.is("P24 by a dead one", x.toPay(2, 0), -1);
    }

    private static void way(WolfsHead x, int person, int n, int upper, int lower, int... lands) {
        Due.is("P25 upper of " + n, x.surest(person, n, -2), upper);
        Due.is("P25 lower of " + n, x.surest(person, n, -1), lower);
        for (int i = 0; i < n; i++) {
            Due.is("P25 land " + i + " of " + n, x.surest(person, n, i), lands[i]);
        }
        Due.is("P25 beyond", x.surest(person, n, n), -3);
    }

    private static void surest() {
        WolfsHead x = row(2, 0, 9, 9);
        x.person(0, 0, 0, 0);
        x.person(3, 0, 0, 0);
        x.person(2, 0, 0, 0);
        Due.is("P25 a free one", x.surest(0, 1, 0), -3);
        outlaw(x, 0);
        // 6, 5, 9, 9 of ten: staying is better at first, the forest is worth going later
        way(x, 0, 1, 3, 5, 0);
        way(x, 0, 2, 9, 20, 1, 2);
        way(x, 0, 3, 81, 200, 1, 2, 2);
        way(x, 0, 4, 729, 2000, 1, 2, 2, 2);
        way(x, 0, 6, 59049, 200000, 1, 2, 2, 2, 2, 2);
        Due.is("P25 others", x.surest(0, 0, -2), -3);
        Due.is("P25 others", x.surest(0, 7, -2), -3);
        Due.is("P25 others", x.surest(0, 2, -3), -3);
        Due.is("P25 others", x.surest(3, 2, 0), -3);
        Due.is("P25 others", x.surest(-1, 2, 0), -3);
        Due.is("P25 nothing is changed", x.of(0, 0), 0);
        rule(x, "finds crowd*5;");
        // 10, 10, 5, 5 of ten
        way(x, 0, 3, 1, 1, 0, 0, 0);
        rule(x, "finds (3-land)*2+hunger+out+month;");
        // 4, 6, 8, 10 of ten as long as hunger, out and month are 0
        way(x, 0, 3, 12, 25, 1, 2, 3);
        way(x, 0, 4, 12, 25, 1, 2, 3, 3);
        rule(x, "finds if who=0 and fear=0 and forest=2 then 0 else 10 end;");
        way(x, 0, 2, 1, 1, 0, 0);
        x.kill(0, 1);
        WolfsHead y = row(2, 0, 9, 9);
        y.person(1, 0, 0, 0);
        y.person(1, 0, 0, 0);
        outlaw(y, 0);
        rule(y, "finds crowd*10;");
        way(y, 0, 1, 1, 1, 0);
        y.kill(0, 1);
        Due.is("P25 a dead one", y.surest(0, 1, 0), -3);
    }

    /** Where death is sure all ways are alike. */
    private static void surestDeath() {
        WolfsHead x = row(2, 0, 9, 9);
        x.person(2, 0, 0, 0);
        outlaw(x, 0);
        rule(x, "finds 10;");
        way(x, 0, 1, 0, 1, 1);
        way(x, 0, 3, 0, 1, 1, 0, 0);
        rule(x, "finds if land=3 then 0 else 10 end;");
        way(x, 0, 2, 1, 1, 3, 3);
        rule(x, "finds if land=0 then 0 else 10 end;");
        way(x, 0, 3, 0, 1, 1, 0, 0);
    }

    private static void steps() {
        WolfsHead x = row(0, 0, 0, 0);
        x.land(0);
        Due.is("P26 itself", x.steps(4, 4), 0);
        Due.is("P26 one", x.steps(1, 0), 1);
        Due.is("P26 three", x.steps(0, 3), 3);
        Due.is("P26 none", x.steps(0, 4), -1);
        Due.is("P26 others", x.steps(0, 5), -1);
        Due.is("P26 others", x.steps(-1, 0), -1);
        Due.is("P26 others", x.steps(5, 5), -1);
        x.road(0, 3);
        Due.is("P26 the fewest", x.steps(0, 2), 2);
        WolfsHead y = row(0, 0, 0, 0, 0, 0, 0, 0);
        Due.is("P26 seven", y.steps(0, 7), 7);
        Due.is("P26 seven", y.steps(7, 0), 7);
    }

    private static void unheard() {
        WolfsHead x = row(0, 0, 0, 0, 0, 0, 0);
        x.land(0);
        Due.is("P27 0", x.unheard(2, 0), 0b11111011);
        Due.is("P27 1", x.unheard(2, 1), 0b11110001);
        Due.is("P27 2", x.unheard(2, 2), 0b11100000);
        Due.is("P27 5", x.unheard(0, 5), 0b11000000);
        Due.is("P27 9", x.unheard(0, 9), 0b10000000);
        Due.is("P27 9", x.unheard(7, 9), 0b01111111);
        Due.is("P27 others", x.unheard(0, 10), -1);
        Due.is("P27 others", x.unheard(0, -1), -1);
        Due.is("P27 others", x.unheard(8, 1), -1);
        Due.is("P27 others", x.unheard(-1, 1), -1);
    }

    private static void crowd() {
        WolfsHead x = row(0, 0);
        Due.is("P28 others", x.crowd(2), -2);
        Due.is("P28 others", x.crowd(-2), -2);
        Due.is("P28 none yet", x.crowd(-1), 0);
        for (int i = 1; i <= 5; i++) {
            Due.is("P28 a call more", x.crowd(i % 2), i);
        }
        Due.is("P28 there are 5", x.crowd(0), -2);
        Due.is("P28 as many", x.about(5), 5);
        Due.is("P28 none any more", x.crowd(-1), 0);
        Due.is("P28 none any more", x.about(5), 0);
        Due.is("P28 anew", x.crowd(1), 1);
    }

    private static void crowdIs(WolfsHead x, int s, int k, int ways, int may, int must) {
        Due.is("P29 ways " + s + " " + k, x.inCrowd(s, k, 0), ways);
        Due.is("P29 may " + s + " " + k, x.inCrowd(s, k, 1), may);
        Due.is("P29 must " + s + " " + k, x.inCrowd(s, k, 2), must);
    }

    private static void inCrowd() {
        WolfsHead x = row(0, 0, 0);
        Due.is("P29 without calls", x.inCrowd(0, 0, 0), -1);
        x.crowd(0);
        crowdIs(x, 0, 1, 1, 1, 1);
        crowdIs(x, 0, 0, 0, 0, 0);
        crowdIs(x, 1, 0, 1, 0, 0);
        crowdIs(x, 0, 5, 0, 0, 0);
        x.crowd(2);
        // from 1: 0, 1 or 2 at the second call
        crowdIs(x, 1, 0, 2, 0, 0);
        crowdIs(x, 1, 1, 1, 2, 2);
        crowdIs(x, 0, 1, 2, 1, 1);
        crowdIs(x, 0, 2, 0, 0, 0);
        Due.is("P29 others", x.inCrowd(3, 1, 0), -1);
        Due.is("P29 others", x.inCrowd(-1, 1, 0), -1);
        Due.is("P29 others", x.inCrowd(0, 6, 0), -1);
        Due.is("P29 others", x.inCrowd(0, -1, 0), -1);
        Due.is("P29 others", x.inCrowd(0, 1, 3), -1);
        Due.is("P29 others", x.inCrowd(0, 1, -1), -1);
        WolfsHead y = new WolfsHead();
        for (int i = 0; i < 8; i++) {
            y.land(0);
            for (int j = 0; j < i; j++) {
                y.road(i, j);
            }
            y.crowd(0);
        }
        crowdIs(y, 0, 5, 1, 31, 31);
        crowdIs(y, 0, 1, 2401, 1, 1);
        crowdIs(y, 1, 0, 2401, 0, 0);
        crowdIs(y, 1, 2, 6 * 49, 30, 0);
        crowdIs(y, 0, 4, 4 * 7, 31, 1);
    }
}
