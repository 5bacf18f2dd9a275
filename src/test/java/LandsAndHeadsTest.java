/** Promises 30 to 39: helpers, whom to watch, borders, heads told twice, two who fear each other. */
public final class LandsAndHeadsTest {
    public static void main(String[] args) {
        helpers();
        watch();
        borders();
        reports();
        heads();
        has();
        rests();
        mixed();
        Due.done();
    }

    private static WolfsHead lands(int n, int... roads) {
        WolfsHead x = new WolfsHead();
        for (int i = 0; i < n; i++) {
            x.land(0);
        }
        for (int i = 0; i < roads.length; i += 2) {
            Due.is("a road", x.road(roads[i], roads[i + 1]), true);
        }
        return x;
    }

    private static void helpers() {
        Due.is("P30 no lands", lands(0).helpers(), 0);
        Due.is("P30 one", lands(1).helpers(), 1);
        Due.is("P30 no roads", lands(8).helpers(), 255);
        Due.is("P30 of like ones the lowest", lands(2, 0, 1).helpers(), 1);
        Due.is("P30 a star", lands(8, 7, 0, 7, 1, 7, 2, 7, 3, 7, 4, 7, 5, 7, 6).helpers(), 128);
        Due.is("P30 a row of 6", lands(6, 0, 1, 1, 2, 2, 3, 3, 4, 4, 5).helpers(), 0b10010);
        Due.is("P30 a row of 4", lands(4, 0, 1, 1, 2, 2, 3).helpers(), 0b0101);
        Due.is("P30 a ring of 8", lands(8, 0, 1, 1, 2, 2, 3, 3, 4, 4, 5, 5, 6, 6, 7, 7, 0).helpers(), 0b00100101);
        Due.is("P30 fewer ahead of lower", lands(5, 4, 0, 4, 1, 4, 2, 4, 3, 0, 1).helpers(), 16);
    }

    private static void watch() {
        WolfsHead x = lands(6, 0, 1, 0, 2, 1, 3, 2, 3, 3, 4);
        Due.is("P31 both ways round", x.watch(0, 3), 0b110);
        Due.is("P31 of like ones the lowest", lands(4, 0, 1, 1, 2, 2, 3).watch(0, 3), 0b10);
        Due.is("P31 one is enough", x.watch(0, 4), 0b1000);
        Due.is("P31 the other way", x.watch(4, 0), 0b1000);
        Due.is("P31 no way leads anyhow", x.watch(0, 5), 0);
        Due.is("P31 a road joins them", x.watch(0, 1), -1);
        Due.is("P31 they are one", x.watch(2, 2), -1);
        Due.is("P31 others", x.watch(0, 6), -1);
        Due.is("P31 others", x.watch(-1, 0), -1);
        WolfsHead y = lands(8, 0, 1, 0, 2, 0, 3, 0, 4, 0, 5, 0, 6, 1, 7, 2, 7, 3, 7, 4, 7, 5, 7, 6, 7);
        Due.is("P31 six", y.watch(0, 7), 0b01111110);
    }

    private static void borders() {
        WolfsHead x = lands(4, 0, 1, 1, 2);
        Due.is("P33 no borders yet", x.toBorder(0), -1);
        Due.is("P32 below", x.borders(-1), false);
        Due.is("P32 above", x.borders(256), false);
        Due.is("P32 one", x.borders(4), true);
        Due.is("P33 two roads", x.toBorder(0), 2);
        Due.is("P33 itself", x.toBorder(2), 0);
        Due.is("P33 no way", x.toBorder(3), -1);
        Due.is("P33 others", x.toBorder(4), -1);
        Due.is("P33 others", x.toBorder(-1), -1);
        x.borders(256);
        Due.is("P32 as they were", x.toBorder(0), 2);
        Due.is("P32 two", x.borders(6), true);
        Due.is("P33 the nearer", x.toBorder(0), 1);
        Due.is("P32 lands that aren't there", x.borders(255), true);
        Due.is("P33 itself", x.toBorder(3), 0);
        Due.is("P32 only such", x.borders(240), true);
        Due.is("P33 none", x.toBorder(0), -1);
        x.land(0);
        x.road(4, 2);
        Due.is("P33 told later", x.toBorder(0), 3);
        Due.is("P32 none", x.borders(0), true);
        Due.is("P33 none", x.toBorder(0), -1);
    }

    private static void reports() {
        WolfsHead x = new WolfsHead();
        Due.is("P35 without reports", x.unlike(0, 1), -2);
        Due.is("P34 below", x.reports(-1), false);
        Due.is("P34 above", x.reports(9), false);
        Due.is("P34 eight", x.reports(8), true);
        for (int i = 1; i <= 8; i++) {
            Due.is("P35 unlike", x.unlike(i - 1, i % 8), i);
        }
        Due.is("P35 there are 8", x.unlike(0, 2), -2);
        Due.is("P34 others leave them", x.reports(9), false);
        Due.is("P34 others leave them", x.about(7), 8);
        Due.is("P34 as many, unlike are none", x.reports(8), true);
        Due.is("P34 unlike are none", x.about(7), 0);
        Due.is("P36 one head", x.heads(-1), 1);
        x.reports(3);
        Due.is("P35 the same", x.unlike(1, 1), -2);
        Due.is("P35 none such", x.unlike(0, 3), -2);
        Due.is("P35 none such", x.unlike(-1, 0), -2);
        Due.is("P35 one", x.unlike(0, 2), 1);
        Due.is("P35 told again", x.unlike(2, 0), 2);
        Due.is("P34 how many", x.about(6), 3);
    }

    private static void headsAre(int n, int[] unlike, int many, int... whose) {
        WolfsHead x = new WolfsHead();
        x.reports(n);
        for (int i = 0; i < unlike.length; i += 2) {
            x.unlike(unlike[i], unlike[i + 1]);
        }
        Due.is("P36 how many", x.heads(-1), many);
        for (int i = 0; i < n; i++) {
            Due.is("P36 whose " + i, x.heads(i), whose[i]);
        }
        Due.is("P36 others", x.heads(n), -2);
        Due.is("P36 others", x.heads(-2), -2);
    }

    private static void heads() {
        headsAre(0, new int[] {}, 0);
        headsAre(1, new int[] {}, 1, 0);
        headsAre(8, new int[] {}, 1, 0, 0, 0, 0, 0, 0, 0, 0);
        headsAre(4, new int[] {0, 1, 1, 2, 2, 3}, 2, 0, 1, 0, 1);
        headsAre(5, new int[] {0, 1, 1, 2, 2, 3, 3, 4, 4, 0}, 3, 0, 1, 0, 1, 2);
        headsAre(6, new int[] {2, 3, 2, 4, 2, 5, 3, 4, 3, 5, 4, 5}, 4, 0, 0, 0, 1, 2, 3);
        // one by one, each the lowest that fits, this would take three heads
        headsAre(4, new int[] {0, 2, 2, 3, 3, 1}, 2, 0, 1, 1, 0);
        headsAre(8, new int[] {0, 7, 7, 1, 1, 6, 6, 2, 2, 5}, 2, 0, 0, 0, 0, 0, 1, 1, 1);
    }

    private static void has() {
        WolfsHead x = new WolfsHead();
        Due.is("P37 first", x.has(false, 2, 0, 0), false);
        Due.is("P37 first", x.has(false, -1, 0, 0), false);
        Due.is("P37 other", x.has(false, 0, 2, 0), false);
        Due.is("P37 other", x.has(true, 0, -1, 0), false);
        Due.is("P37 what", x.has(true, 0, 0, 100), false);
        Due.is("P37 what", x.has(true, 0, 0, -1), false);
        Due.is("P38 all is alike", x.rests(), 15);
        Due.is("P37 what", x.has(true, 0, 0, 99), true);
        Due.is("P37 it counts", x.rests(), 11);
    }

    private static WolfsHead gains(int... all) {
        WolfsHead x = new WolfsHead();
        for (int i = 0; i < 8; i++) {
            Due.is("P37", x.has(i >= 4, i >> 1 & 1, i & 1, all[i]), true);
        }
        return x;
    }

    private static void rests() {
        // what the first has, then the second: peace/peace, peace/strike, strike/peace, strike/strike
        Due.is("P38 both strike", gains(3, 0, 5, 1, 3, 5, 0, 1).rests(), 8);
        Due.is("P38 both at peace", gains(5, 1, 3, 0, 5, 3, 1, 0).rests(), 1);
        Due.is("P38 hawk and dove", gains(2, 1, 3, 0, 2, 3, 1, 0).rests(), 6);
        Due.is("P38 the first strikes", gains(1, 1, 2, 2, 5, 0, 5, 0).rests(), 2);
        Due.is("P38 the second strikes", gains(2, 2, 1, 1, 0, 5, 0, 5).rests(), 4);
        Due.is("P38 either both", gains(4, 0, 3, 2, 4, 3, 0, 2).rests(), 9);
        Due.is("P38 none", gains(1, 0, 0, 1, 0, 1, 1, 0).rests(), 0);
        Due.is("P38 alike is no more", gains(1, 1, 1, 1, 0, 0, 0, 0).rests(), 15);
    }

    private static void mixedIs(int peace, int strike, int peaceStruck, int struck, int upper, int lower) {
        WolfsHead x = gains(9, 8, 7, 6, peace, strike, peaceStruck, struck);
        Due.is("P39 upper", x.mixed(false), upper);
        Due.is("P39 lower", x.mixed(true), lower);
    }

    private static void mixed() {
        mixedIs(0, 0, 0, 0, -1, -1);
        mixedIs(0, 1, 1, 0, 1, 2);
        mixedIs(1, 0, 0, 1, 1, 2);
        mixedIs(2, 0, 0, 1, 1, 3);
        mixedIs(1, 0, 0, 2, 2, 3);
        mixedIs(0, 4, 6, 0, 3, 5);
        mixedIs(99, 0, 0, 99, 1, 2);
        mixedIs(99, 0, 0, 98, 98, 197);
        mixedIs(0, 99, 98, 0, 98, 197);
        mixedIs(1, 0, 5, 5, -1, -1);
        mixedIs(5, 5, 1, 0, -1, -1);
        mixedIs(3, 5, 0, 1, -1, -1);
        mixedIs(5, 5, 5, 5, -1, -1);
        mixedIs(2, 3, 2, 3, -1, -1);
    }
}
