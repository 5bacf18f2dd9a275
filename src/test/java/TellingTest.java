/** Promises 1 to 9, 19 to 21 and 48: what is told and how it is then. */
public final class TellingTest {
    public static void main(String[] args) {
        anew();
        lands();
        roads();
        persons();
        feed();
        end();
        text();
        fault();
        by();
        of();
        about();
        Due.done();
    }

    private static void anew() {
        WolfsHead x = new WolfsHead();
        Due.is("P1 NONE", WolfsHead.NONE, -1);
        for (int what = 0; what < 10; what++) {
            Due.is("P1 about " + what, x.about(what), what == 3 ? -1 : 0);
        }
        Due.is("P1 month", x.is(0), 0);
        Due.is("P1 X", x.is(1), 149);
        Due.is("P1 book", x.book(-1, 0), 0);
        Due.is("P1 no land", x.ofLand(0, 0), -1);
        Due.is("P1 no person", x.of(0, 0), -1);
        x.land(3);
        x.person(0, 1, 2, 3);
        x.month(5);
        x.borders(1);
        Due.is("P1 back to a new one", x.back(), 0);
        Due.is("P1 lands behind it", x.about(0), 0);
        Due.is("P1 persons behind it", x.about(1), 0);
        Due.is("P1 steps behind it", x.about(4), 0);
        Due.is("P1 X behind it", x.is(1), 149);
        x.land(3);
        Due.is("P1 borders behind it", x.toBorder(0), -1);
    }

    private static void lands() {
        WolfsHead x = new WolfsHead();
        Due.is("P2 below", x.land(-1), -1);
        Due.is("P2 above", x.land(10), -1);
        for (int i = 0; i < 8; i++) {
            Due.is("P2 land " + i, x.land(i == 7 ? 9 : i), i);
        }
        Due.is("P2 the 9th", x.land(1), -1);
        Due.is("P20 forest", x.ofLand(7, 0), 9);
        Due.is("P20 forest", x.ofLand(0, 0), 0);
        Due.is("P20 roads", x.ofLand(0, 1), 0);
        Due.is("P20 others", x.ofLand(8, 0), -1);
        Due.is("P20 others", x.ofLand(-1, 0), -1);
        Due.is("P20 others", x.ofLand(0, 3), -1);
        Due.is("P20 others", x.ofLand(0, -1), -1);
    }

    private static void roads() {
        WolfsHead x = new WolfsHead();
        x.land(1);
        x.land(1);
        x.land(1);
        Due.is("P3 a road", x.road(0, 2), true);
        Due.is("P3 the same", x.road(0, 2), false);
        Due.is("P3 the same, the other way", x.road(2, 0), false);
        Due.is("P3 to itself", x.road(1, 1), false);
        Due.is("P3 no such land", x.road(0, 3), false);
        Due.is("P3 no such land", x.road(-1, 0), false);
        Due.is("P3 both ways", x.ofLand(0, 1), 4);
        Due.is("P3 both ways", x.ofLand(2, 1), 1);
        Due.is("P3 another", x.road(2, 1), true);
        Due.is("P3 bits", x.ofLand(2, 1), 3);
    }

    private static void persons() {
        WolfsHead x = new WolfsHead();
        Due.is("P4 without lands", x.person(0, 0, 0, 0), -1);
        x.land(4);
        x.land(5);
        Due.is("P4 land", x.person(2, 0, 0, 0), -1);
        Due.is("P4 land", x.person(-1, 0, 0, 0), -1);
        Due.is("P4 fear", x.person(0, 10, 0, 0), -1);
        Due.is("P4 fear", x.person(0, -1, 0, 0), -1);
        Due.is("P4 goods", x.person(0, 0, 10000, 0), -1);
        Due.is("P4 goods", x.person(0, 0, -1, 0), -1);
        Due.is("P4 debts", x.person(0, 0, 0, 10000), -1);
        Due.is("P4 debts", x.person(0, 0, 0, -1), -1);
        Due.is("P4 none of these", x.about(1), 0);
        Due.is("P4 first", x.person(1, 9, 9999, 9998), 0);
        Due.is("P4 second", x.person(0, 0, 0, 0), 1);
        int[] first = {1, 9, 9999, 9998, 0, 0, 0, 0, 1, 3, 100, 10, 0};
        int[] second = {0, 0, 0, 0, 0, 0, 0, 0, 1, 3, 100, 10, 0};
        for (int what = 0; what < 13; what++) {
            Due.is("P19 of 0 " + what, x.of(0, what), first[what]);
            Due.is("P19 of 1 " + what, x.of(1, what), second[what]);
        }
        for (int i = 2; i < 6; i++) {
            Due.is("P4 more", x.person(1, 0, 0, 0), i);
        }
        Due.is("P4 the 7th", x.person(1, 0, 0, 0), -1);
        Due.is("P20 persons", x.ofLand(1, 2), 0b111101);
        Due.is("P19 crowd", x.of(0, 12), 4);
        Due.is("P19 crowd", x.of(1, 12), 0);
    }

    private static void feed() {
        WolfsHead x = new WolfsHead();
        for (int i = 1; i <= 15; i++) {
            Due.is("P5 feed", x.feed(0x20202020, 0x20202020, 0x20202020, 0x20202020, 0x20202020), 20 * i);
        }
        Due.is("P5 the tape is full", x.feed(0, 0, 0, 0, 0), -1);
        Due.is("P5 none came", x.about(9), 300);
        x.end(281);
        Due.is("P5 301 would be too many", x.feed(0, 0, 0, 0, 0), -1);
        Due.is("P5 none came", x.about(9), 281);
        x.end(280);
        Due.is("P5 300 fit", x.feed(0, 0, 0, 0, 0), 300);
        x.end(0);
        x.feed(0x6c616e64, 0x20333b6c, 0x616e6420, 0x343b6c61, 0x6e642035);
        x.feed(0x3b202020, 0x20202020, 0x20202020, 0x20202020, 0x20202020);
        Due.is("P5 the highest byte first", x.text(), 0);
        Due.is("P5 its clauses are done", x.played(0), -1);
        Due.is("P5 land 3", x.ofLand(0, 0), 3);
        Due.is("P5 land 4", x.ofLand(1, 0), 4);
        Due.is("P5 land 5", x.ofLand(2, 0), 5);
        x.feed(-1, -1, -1, -1, -1);
        Due.is("P5 bytes above 127 are no tokens", x.text(), -1);
        Due.is("P5 bytes above 127 are no tokens", x.fault(0), 1);
    }

    private static void end() {
        WolfsHead x = new WolfsHead();
        Due.is("P6 nothing", x.end(0), 0);
        Due.is("P6 not so many", x.end(1), -1);
        x.feed(0, 0, 0, 0, 0);
        Due.is("P6 below 0", x.end(-1), -1);
        Due.is("P6 not so many", x.end(21), -1);
        Due.is("P6 nothing is done", x.about(9), 20);
        Due.is("P6 all", x.end(20), 20);
        Due.is("P6 some", x.end(7), 7);
        Due.is("P6 some", x.about(9), 7);
        Due.is("P6 they are gone", x.end(8), -1);
    }

    private static void text() {
        WolfsHead x = new WolfsHead();
        Due.is("P7 an empty one", x.text(), 0);
        Due.is("P7 a second", Due.text(x, "land 3;"), 1);
        Due.is("P7 the tape is empty then", x.about(9), 0);
        Due.is("P7 a fault", Due.text(x, "land"), -1);
        Due.is("P7 the tape is empty then too", x.about(9), 0);
        Due.is("P7 not told", x.about(2), 2);
        Due.is("P7 a third", Due.text(x, " \n "), 2);
        Due.is("P7 a fourth", Due.text(x, "earns 5;"), 3);
        Due.is("P7 there are 4", Due.text(x, "land"), -1);
        Due.is("P7 the tape stays", x.about(9), 4);
        Due.is("P7 not read", x.fault(0), 0);
        Due.is("P7 there are 4", x.about(2), 4);
        x.back();
        Due.is("P7 room again", x.text(), -1);
        Due.is("P7 the tape was as it stayed", x.fault(1), 4);
        Due.is("P7 and is empty then", x.about(9), 0);
    }

    private static void fault() {
        WolfsHead x = new WolfsHead();
        Due.is("P8 ahead of any", x.fault(0), -1);
        Due.is("P8 ahead of any", x.fault(1), -1);
        Due.text(x, "land 3;");
        Due.is("P8 without", x.fault(0), 0);
        Due.is("P8 without", x.fault(1), -1);
        Due.text(x, "land 30;");
        Due.is("P8 what", x.fault(0), 2);
        Due.is("P8 place", x.fault(1), 5);
        Due.is("P8 others", x.fault(2), -1);
        Due.is("P8 others", x.fault(-1), -1);
        Due.text(x, "");
        Due.is("P8 the latest", x.fault(0), 0);
    }

    private static void by() {
        WolfsHead x = new WolfsHead();
        x.land(0);
        x.person(0, 0, 0, 0);
        Due.is("P9 none such", x.by(0), false);
        Due.text(x, "earns 7;");
        Due.text(x, "earns 8;");
        Due.is("P9 told alone it doesn't rule", x.of(0, 11), 10);
        Due.is("P9 the first", x.by(0), true);
        Due.is("P9 rules", x.of(0, 11), 7);
        Due.is("P9 the second", x.by(1), true);
        Due.is("P9 rules", x.of(0, 11), 8);
        Due.is("P48 the text", x.about(3), 1);
        Due.is("P9 none such", x.by(2), false);
        Due.is("P9 none such", x.by(-2), false);
        Due.is("P9 it stays", x.of(0, 11), 8);
        Due.is("P9 none", x.by(-1), true);
        Due.is("P9 none", x.about(3), -1);
        Due.is("P9 without", x.of(0, 11), 10);
    }

    private static void of() {
        WolfsHead x = new WolfsHead();
        x.land(9);
        x.person(0, 0, 0, 0);
        Due.is("P19 others", x.of(1, 0), -1);
        Due.is("P19 others", x.of(-1, 0), -1);
        Due.is("P19 others", x.of(0, 13), -1);
        Due.is("P19 others", x.of(0, -1), -1);
        Due.is("P21 others", x.is(2), -2);
        Due.is("P21 others", x.is(-1), -2);
        x.month(3);
        Due.is("P21 month", x.is(0), 3);
        x.reigns(5, 1);
        Due.is("P21 X", x.is(1), (159 * 379 + 257) % 30469);
        for (int forest = 0; forest < 10; forest++) {
            WolfsHead y = new WolfsHead();
            y.land(forest);
            y.person(0, 0, 0, 0);
            Due.is("P19 finds without a text", y.of(0, 9), 5 - forest / 2);
        }
    }

    private static void about() {
        WolfsHead x = new WolfsHead();
        x.land(1);
        x.land(1);
        x.road(0, 1);
        x.person(0, 0, 0, 0);
        Due.text(x, "");
        Due.text(x, "");
        Due.text(x, "");
        x.by(2);
        x.move(0, 1);
        x.month(3);
        x.crowd(1);
        x.crowd(0);
        x.reports(7);
        x.unlike(1, 2);
        x.unlike(3, 2);
        x.unlike(4, 2);
        x.unlike(5, 2);
        x.unlike(6, 2);
        x.paid(0, 1);
        x.feed(0, 0, 0, 0, 0);
        int[] due = {2, 1, 3, 2, 4, 2, 7, 5, 1, 20};
        for (int what = 0; what < 10; what++) {
            Due.is("P48 about " + what, x.about(what), due[what]);
        }
        Due.is("P48 others", x.about(10), -2);
        Due.is("P48 others", x.about(-1), -2);
    }
}
