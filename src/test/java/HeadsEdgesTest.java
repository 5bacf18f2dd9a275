/** Promises 30 to 39, sentence by sentence, where they name a bound or a refusal. */
public final class HeadsEdgesTest {
    public static void main(String[] args) {
        helpers();
        watchNone();
        watchSets();
        borders();
        toBorder();
        reports();
        unlike();
        unlikeIsFull();
        headsOthers();
        headsFewest();
        hasOthers();
        hasPlaces();
        rests();
        mixed();
        Due.done();
    }

    private static WolfsHead lands(int n, int... roads) {
        WolfsHead x = new WolfsHead();
        for (int i = 0; i < n; i++) {
            x.land(0);
        }
        for (int i = 0; i < roads.length; i += 2) {
            Due.is("a road", x.road(roads[i], roads[i + 1]), true);
        }
        return x;
    }

    private static WolfsHead full() {
        WolfsHead x = lands(8);
        for (int i = 0; i < 8; i++) {
            for (int j = 0; j < i; j++) {
                x.road(i, j);
            }
        }
        return x;
    }

    private static void helpers() {
        Says says = new Says(30, "HELPERS: the fewest LANDS (bits) such that each is one of them, or has a ROAD to one; "
            + "of like ones the lowest set.");
        says.is("no lands", lands(0).helpers(), 0).is("one", lands(1).helpers(), 1).is("two", lands(2).helpers(), 3);
        says.is("two and a road", lands(2, 1, 0).helpers(), 1).is("eight", lands(8).helpers(), 255);
        says.is("all roads", full().helpers(), 1).is("a row of 3", lands(3, 0, 1, 1, 2).helpers(), 2);
        says.is("a row of 8", Scene.row(0, 0, 0, 0, 0, 0, 0, 0).helpers(), 0b01001001);
        says.is("four pairs", lands(8, 0, 7, 1, 6, 2, 5, 3, 4).helpers(), 15);
        says.is("two lowest of a square", lands(4, 0, 1, 1, 2, 2, 3, 3, 0).helpers(), 3);
        says.is("a star of the last", lands(8, 7, 0, 7, 1, 7, 2, 7, 3, 7, 4, 7, 5, 7, 6).helpers(), 128);
        WolfsHead x = lands(7, 6, 0, 6, 1, 6, 2, 6, 3, 6, 4, 6, 5);
        x.land(0);
        says.is("one more without a road", x.helpers(), 192);
    }

    private static void watchNone() {
        Says says = new Says(31, "NONE: a ROAD joins them, or they are one. NONE: none, and for others.");
        WolfsHead x = lands(3, 0, 1, 1, 2);
        says.is("a road", x.watch(0, 1), -1).is("a road", x.watch(1, 0), -1).is("one", x.watch(0, 0), -1).is("one", x.watch(2, 2), -1);
        says.is("watch(-1, 0)", x.watch(-1, 0), -1).is("watch(0, -1)", x.watch(0, -1), -1).is("watch(-1, -1)", x.watch(-1, -1), -1);
        says.is("watch(0, 3)", x.watch(0, 3), -1).is("watch(3, 0)", x.watch(3, 0), -1).is("watch(3, 3)", x.watch(3, 3), -1);
        for (int odd : Scene.ODD) {
            says.is("a " + odd, x.watch(odd, 0), -1).is("b " + odd, x.watch(0, odd), -1);
        }
        says.is("without lands", new WolfsHead().watch(0, 1), -1).is("all roads", full().watch(0, 7), -1);
        says.is("a road beside a way", lands(3, 0, 1, 1, 2, 0, 2).watch(0, 2), -1);
    }

    private static void watchSets() {
        Says says = new Says(31, "WATCH: the fewest LANDS (bits, neither a nor b) without which no way leads from a to b; "
            + "of like ones the lowest set");
        says.is("no way anyhow", lands(2).watch(0, 1), 0).is("no way anyhow", lands(8).watch(7, 0), 0);
        says.is("no way, roads elsewhere", lands(5, 0, 1, 2, 3, 3, 4).watch(0, 4), 0);
        says.is("between", lands(3, 0, 1, 1, 2).watch(0, 2), 2).is("between", lands(3, 0, 1, 1, 2).watch(2, 0), 2);
        says.is("the lowest", Scene.row(0, 0, 0, 0, 0, 0, 0, 0).watch(0, 7), 2);
        says.is("the lowest from the other end", Scene.row(0, 0, 0, 0, 0, 0, 0, 0).watch(7, 0), 2);
        WolfsHead six = lands(8, 0, 1, 0, 2, 0, 3, 0, 4, 0, 5, 0, 6, 7, 1, 7, 2, 7, 3, 7, 4, 7, 5, 7, 6);
        says.is("six", six.watch(0, 7), 126).is("six", six.watch(7, 0), 126);
        six.road(1, 2);
        says.is("six yet", six.watch(0, 7), 126).is("two others", six.watch(3, 4), 129);
        WolfsHead x = lands(6, 0, 1, 0, 2, 1, 3, 2, 4, 3, 5, 4, 5);
        says.is("two of four", x.watch(0, 5), 0b00110);
        WolfsHead neck = lands(7, 0, 1, 0, 2, 1, 3, 2, 3, 3, 4, 3, 5, 4, 6, 5, 6);
        says.is("one is fewer than the lowest two", neck.watch(0, 6), 8);
    }

    private static void borders() {
        Says says = new Says(32, "BORDERS: true. False for others (0 .. 255; LANDS there or not).");
        WolfsHead x = lands(3, 0, 1, 1, 2);
        says.is("borders(-1)", x.borders(-1), false).is("borders(256)", x.borders(256), false);
        says.is("borders(257)", x.borders(257), false).is("borders(MIN)", x.borders(Integer.MIN_VALUE), false);
        says.is("borders(MAX)", x.borders(Integer.MAX_VALUE), false).is("none of these", x.toBorder(0), -1);
        says.is("borders(4)", x.borders(4), true).is("borders(256)", x.borders(256), false).is("as before", x.toBorder(0), 2);
        says.is("borders(255)", x.borders(255), true).is("all", x.toBorder(0), 0).is("borders(0)", x.borders(0), true);
        says.is("none", x.toBorder(0), -1).is("borders(248)", x.borders(248), true).is("none there", x.toBorder(2), -1);
        x.land(0);
        says.is("told since, no road", x.toBorder(2), -1).is("told since, itself", x.toBorder(3), 0);
        x.road(3, 2);
        says.is("a road since", x.toBorder(0), 3).is("no step", x.about(4), 0);
        says.is("without lands", new WolfsHead().borders(128), true);
    }

    private static void toBorder() {
        Says says = new Says(33, "TO A BORDER: the fewest ROADS from a LAND; none. NONE: none, and for others.");
        WolfsHead x = Scene.row(0, 0, 0, 0, 0, 0, 0, 0);
        says.is("at first none", x.toBorder(0), -1);
        x.borders(128);
        for (int land = 0; land < 8; land++) {
            says.is("toBorder(" + land + ")", x.toBorder(land), 7 - land);
        }
        x.borders(129);
        for (int land = 0; land < 8; land++) {
            says.is("two: toBorder(" + land + ")", x.toBorder(land), Math.min(land, 7 - land));
        }
        says.is("toBorder(-1)", x.toBorder(-1), -1).is("toBorder(8)", x.toBorder(8), -1);
        for (int odd : Scene.ODD) {
            says.is("toBorder(" + odd + ")", x.toBorder(odd), -1);
        }
        WolfsHead y = Scene.village();
        y.borders(255);
        says.is("not told", y.toBorder(3), -1);
        y.borders(4);
        says.is("no way", y.toBorder(0), -1).is("itself", y.toBorder(2), 0);
        WolfsHead z = new WolfsHead();
        z.borders(255);
        says.is("without lands", z.toBorder(0), -1);
    }

    private static void reports() {
        Says says = new Says(34, "REPORTS: true (0 .. 8; UNLIKE are none then). False for others.");
        WolfsHead x = new WolfsHead();
        says.is("at first", x.about(6), 0).is("reports(-1)", x.reports(-1), false).is("reports(9)", x.reports(9), false);
        for (int odd : Scene.ODD) {
            says.is("reports(" + odd + ")", x.reports(odd), false);
        }
        says.is("none of these", x.about(6), 0);
        for (int n = 0; n <= 8; n++) {
            says.is("reports(" + n + ")", x.reports(n), true).is("about(6)", x.about(6), n);
            says.is("heads", x.heads(-1), n == 0 ? 0 : 1).is("beyond the last", x.heads(n), -2);
        }
        x.unlike(0, 7);
        says.is("reports(9)", x.reports(9), false).is("as many", x.about(6), 8).is("unlike stay", x.about(7), 1);
        says.is("reports(8)", x.reports(8), true).is("unlike are none", x.about(7), 0).is("one head", x.heads(-1), 1);
        x.unlike(0, 1);
        says.is("reports(2)", x.reports(2), true).is("unlike are none", x.heads(-1), 1).is("no step", x.about(4), 0);
    }

    private static void unlike() {
        Says says = new Says(35, "UNLIKE: how many there are. -2 for others (unlike ones)");
        WolfsHead x = new WolfsHead();
        says.is("without reports", x.unlike(0, 1), -2);
        x.reports(1);
        says.is("one report", x.unlike(0, 0), -2).is("one report", x.unlike(0, 1), -2);
        x.reports(3);
        says.is("alike", x.unlike(0, 0), -2).is("alike", x.unlike(2, 2), -2);
        says.is("unlike(-1, 0)", x.unlike(-1, 0), -2).is("unlike(0, -1)", x.unlike(0, -1), -2);
        says.is("unlike(3, 0)", x.unlike(3, 0), -2).is("unlike(0, 3)", x.unlike(0, 3), -2).is("unlike(8, 0)", x.unlike(8, 0), -2);
        for (int odd : Scene.ODD) {
            says.is("one " + odd, x.unlike(odd, 0), -2).is("other " + odd, x.unlike(0, odd), -2);
        }
        says.is("none of these", x.about(7), 0).is("one head", x.heads(-1), 1);
        says.is("unlike(2, 0)", x.unlike(2, 0), 1).is("both ways", x.heads(2), 1).is("unlike(0, 1)", x.unlike(0, 1), 2);
    }

    private static void unlikeIsFull() {
        Says says = new Says(35, "-2 for others (unlike ones), or if there are 8.");
        WolfsHead x = new WolfsHead();
        x.reports(8);
        for (int i = 0; i < 7; i++) {
            says.is("unlike", x.unlike(i, i + 1), i + 1);
        }
        says.is("the 8th", x.unlike(0, 2), 8).is("the 9th", x.unlike(1, 3), -2).is("about(7)", x.about(7), 8);
        says.is("heads without the 9th", x.heads(-1), 3).is("whose", x.heads(3), 0);
        says.is("reports anew", x.reports(8), true).is("room again", x.unlike(1, 3), 1);
    }

    private static void headsOthers() {
        Says says = new Says(36, "LEAST HEADS: how many (i NONE), whose the i-th is. -2 for others.");
        WolfsHead x = new WolfsHead();
        says.is("heads(NONE) of none", x.heads(-1), 0).is("heads(0) of none", x.heads(0), -2);
        x.reports(3);
        says.is("heads(-2)", x.heads(-2), -2).is("heads(3)", x.heads(3), -2).is("heads(8)", x.heads(8), -2).is("heads(2)", x.heads(2), 0);
        for (int odd : Scene.ODD) {
            says.is("heads(" + odd + ")", x.heads(odd), -2);
        }
        x.reports(8);
        says.is("heads(7)", x.heads(7), 0).is("heads(8)", x.heads(8), -2);
    }

    private static void headsAre(Says says, int n, int[] unlike, int many, int... whose) {
        WolfsHead x = new WolfsHead();
        x.reports(n);
        for (int i = 0; i < unlike.length; i += 2) {
            x.unlike(unlike[i], unlike[i + 1]);
        }
        says.is("how many", x.heads(-1), many);
        for (int i = 0; i < n; i++) {
            says.is("whose " + i, x.heads(i), whose[i]);
        }
    }

    private static void headsFewest() {
        Says says = new Says(36, "the fewest heads that explain all reports; of like ones report by report the lowest head (from 0 on)");
        headsAre(says, 1, new int[] {}, 1, 0);
        headsAre(says, 2, new int[] {}, 1, 0, 0);
        headsAre(says, 2, new int[] {0, 1}, 2, 0, 1);
        headsAre(says, 8, new int[] {6, 7}, 2, 0, 0, 0, 0, 0, 0, 0, 1);
        headsAre(says, 8, new int[] {0, 7}, 2, 0, 0, 0, 0, 0, 0, 0, 1);
        headsAre(says, 8, new int[] {0, 1, 1, 2, 2, 3, 3, 4, 4, 5, 5, 6, 6, 7, 7, 0}, 2, 0, 1, 0, 1, 0, 1, 0, 1);
        headsAre(says, 7, new int[] {0, 1, 1, 2, 2, 3, 3, 4, 4, 5, 5, 6, 6, 0}, 3, 0, 1, 0, 1, 0, 1, 2);
        headsAre(says, 4, new int[] {0, 1, 0, 2, 0, 3, 1, 2, 1, 3, 2, 3}, 4, 0, 1, 2, 3);
        headsAre(says, 8, new int[] {4, 5, 4, 6, 4, 7, 5, 6, 5, 7, 6, 7}, 4, 0, 0, 0, 0, 0, 1, 2, 3);
        headsAre(says, 3, new int[] {0, 1, 0, 1, 1, 0}, 2, 0, 1, 0);
        // by the lowest that fits, report by report, this one would take three
        headsAre(says, 4, new int[] {0, 3, 3, 2, 2, 1}, 2, 0, 1, 0, 1);
        headsAre(says, 4, new int[] {0, 2, 2, 3, 3, 1}, 2, 0, 1, 1, 0);
        headsAre(says, 6, new int[] {0, 5, 5, 1, 1, 4, 4, 2, 2, 3}, 2, 0, 0, 0, 1, 1, 1);
    }

    private static void hasOthers() {
        Says says = new Says(37, "by both choices (0 at peace, 1 strikes): true. False for others: what each has (0 .. 99)");
        WolfsHead x = new WolfsHead();
        for (int odd : new int[] {-1, 2, Integer.MIN_VALUE, Integer.MAX_VALUE}) {
            says.is("first " + odd, x.has(false, odd, 0, 5), false).is("other " + odd, x.has(true, 0, odd, 5), false);
            says.is("first " + odd, x.has(true, odd, 1, 5), false).is("other " + odd, x.has(false, 1, odd, 5), false);
        }
        for (int odd : new int[] {-1, 100, Integer.MIN_VALUE, Integer.MAX_VALUE}) {
            says.is("what " + odd, x.has(false, 0, 0, odd), false).is("what " + odd, x.has(true, 1, 1, odd), false);
        }
        says.is("none of these", x.rests(), 15).is("what 0", x.has(false, 0, 0, 0), true).is("what 99", x.has(false, 0, 0, 99), true);
        says.is("99 it is", x.rests(), 13).is("what 100", x.has(false, 0, 0, 100), false).is("99 yet", x.rests(), 13);
        says.is("anew", x.has(false, 0, 0, 0), true).is("as at first", x.rests(), 15).is("no step", x.about(4), 0);
    }

    private static void hasPlaces() {
        Says says = new Says(37, "What the first (second false) or the second has by both choices (0 at peace, 1 strikes)");
        // one that has more by one choice doesn't rest at the other
        int[] first = {13, 7, 14, 11};
        int[] second = {11, 14, 7, 13};
        for (int pair = 0; pair < 4; pair++) {
            WolfsHead x = new WolfsHead();
            says.is("has", x.has(false, pair >> 1, pair & 1, 1), true);
            says.is("the first, " + (pair >> 1) + (pair & 1), x.rests(), first[pair]);
            WolfsHead y = new WolfsHead();
            says.is("has", y.has(true, pair >> 1, pair & 1, 1), true);
            says.is("the second, " + (pair >> 1) + (pair & 1), y.rests(), second[pair]);
        }
    }

    private static WolfsHead gains(int... all) {
        WolfsHead x = new WolfsHead();
        for (int i = 0; i < 8; i++) {
            x.has(i >= 4, i >> 1 & 1, i & 1, all[i]);
        }
        return x;
    }

    private static void rests() {
        Says says = new Says(38, "RESTS (bits): both at peace 1, the first strikes 2, the second strikes 4, both 8: such that none "
            + "has more by the other choice alone.");
        says.is("all alike", gains(0, 0, 0, 0, 0, 0, 0, 0).rests(), 15).is("all 99", gains(99, 99, 99, 99, 99, 99, 99, 99).rests(), 15);
        says.is("both at peace", gains(1, 0, 0, 0, 1, 0, 0, 0).rests(), 9).is("both strike", gains(0, 0, 0, 1, 0, 0, 0, 1).rests(), 9);
        says.is("peace alone", gains(2, 1, 1, 0, 2, 1, 1, 0).rests(), 1).is("striking alone", gains(0, 1, 1, 2, 0, 1, 1, 2).rests(), 8);
        says.is("the first strikes", gains(0, 0, 1, 1, 1, 0, 1, 0).rests(), 2);
        says.is("the second strikes", gains(1, 1, 0, 0, 0, 1, 0, 1).rests(), 4);
        says.is("none", gains(1, 0, 0, 1, 0, 1, 1, 0).rests(), 0).is("none", gains(0, 99, 99, 0, 99, 0, 0, 99).rests(), 0);
        says.is("one or the other", gains(2, 1, 3, 0, 2, 3, 1, 0).rests(), 6);
    }

    private static void mixedIs(Says says, int upper, int lower, int... second) {
        WolfsHead x = gains(0, 0, 0, 0, second[0], second[1], second[2], second[3]);
        says.is("upper", x.mixed(false), upper).is("lower", x.mixed(true), lower);
    }

    private static void mixed() {
        Says says = new Says(39, "MIXED: ODDS of the first being at peace by which the second has the same either way: in lowest terms, "
            + "if it is above 0 and below 1; else none.");
        // what the second has: peace/peace, peace/strike, strike/peace, strike/strike
        mixedIs(says, -1, -1, 0, 0, 0, 0);
        mixedIs(says, 1, 2, 1, 0, 0, 1);
        mixedIs(says, 1, 2, 0, 1, 1, 0);
        mixedIs(says, 1, 3, 2, 0, 0, 1);
        mixedIs(says, 2, 3, 1, 0, 0, 2);
        mixedIs(says, 1, 100, 99, 0, 0, 1);
        mixedIs(says, 99, 100, 1, 0, 0, 99);
        mixedIs(says, 1, 2, 99, 0, 0, 99);
        mixedIs(says, 1, 2, 0, 99, 99, 0);
        mixedIs(says, 99, 197, 98, 0, 0, 99);
        mixedIs(says, 98, 197, 0, 99, 98, 0);
        mixedIs(says, 3, 5, 44, 40, 50, 56);
        Says zero = new Says(39, "if it is above 0 and below 1; else none: 0 and 1 themselves");
        mixedIs(zero, -1, -1, 1, 0, 0, 0);
        mixedIs(zero, -1, -1, 0, 1, 0, 0);
        mixedIs(zero, -1, -1, 0, 0, 1, 0);
        mixedIs(zero, -1, -1, 0, 0, 0, 1);
        mixedIs(zero, -1, -1, 5, 5, 9, 2);
        mixedIs(zero, -1, -1, 9, 2, 5, 5);
        Says beyond = new Says(39, "if it is above 0 and below 1; else none: below 0, above 1, or never the same");
        mixedIs(beyond, -1, -1, 3, 5, 0, 1);
        mixedIs(beyond, -1, -1, 0, 1, 3, 5);
        mixedIs(beyond, -1, -1, 5, 3, 1, 0);
        mixedIs(beyond, -1, -1, 1, 0, 5, 3);
        mixedIs(beyond, -1, -1, 1, 2, 1, 2);
        mixedIs(beyond, -1, -1, 2, 1, 2, 1);
        mixedIs(beyond, -1, -1, 7, 7, 7, 7);
        WolfsHead x = gains(9, 1, 2, 8, 1, 0, 0, 1);
        new Says(39, "by which the second has the same either way").is("not what the first has", x.mixed(true), 2);
    }
}
