/** Promises 40 to 47: by the book, heirs, the most feared, wolves, whose law, and the image. */
public final class BookAndImageTest {
    public static void main(String[] args) {
        befell();
        heirs();
        feared();
        paid();
        whose();
        image();
        imageHoldsAll();
        Due.done();
    }

    private static WolfsHead village() {
        WolfsHead x = new WolfsHead();
        x.land(4);
        x.land(9);
        x.road(0, 1);
        x.person(0, 3, 500, 40);
        x.person(0, 5, 200, 0);
        x.person(1, 0, 50, 60);
        x.person(0, 7, 90, 1);
        return x;
    }

    private static void outlaw(WolfsHead x, int person) {
        int away = x.of(person, 0) == 0 ? 1 : 0;
        for (int i = 0; i < 5 && x.of(person, 7) != 1; i++) {
            x.call(person, away);
        }
        Due.is("an outlaw", x.of(person, 7), 1);
    }

    private static void befell() {
        WolfsHead x = village();
        x.call(0, 0);
        x.call(0, 0);
        x.call(2, 1);
        outlaw(x, 1);
        x.feeds(1, 0);
        x.feeds(1, 3);
        x.pardon(1, 0);
        outlaw(x, 1);
        x.kill(1, 0);
        int[] all = {3, 2, 2, 0, 0, 1, 1};
        int[] zero = {2, 0, 0, 0, 0, 0, 0};
        int[] one = {0, 2, 2, 0, 0, 1, 1};
        for (int what = 0; what < 7; what++) {
            Due.is("P40 all " + what, x.befell(-1, what), all[what]);
            Due.is("P40 of 0 " + what, x.befell(0, what), zero[what]);
            Due.is("P40 of 1 " + what, x.befell(1, what), one[what]);
            Due.is("P40 of 3 " + what, x.befell(3, what), 0);
        }
        Due.is("P40 others", x.befell(4, 0), -2);
        Due.is("P40 others", x.befell(-2, 0), -2);
        Due.is("P40 others", x.befell(0, 7), -2);
        Due.is("P40 others", x.befell(-1, -1), -2);
    }

    private static void heirs() {
        WolfsHead x = village();
        Due.is("P41 of 0", x.heirs(0), 0b1010);
        Due.is("P41 of 2", x.heirs(2), 0);
        Due.is("P41 others", x.heirs(4), -1);
        Due.is("P41 others", x.heirs(-1), -1);
        outlaw(x, 0);
        Due.is("P41 outlaws too", x.heirs(1), 0b1001);
        x.kill(0, 1);
        Due.is("P41 not the dead", x.heirs(1), 0b1000);
        Due.is("P41 of the dead", x.heirs(0), 0b1010);
    }

    private static void feared() {
        WolfsHead x = village();
        Due.is("P42 none", x.feared(), -1);
        Due.is("P43 none", x.wolves(), 0);
        outlaw(x, 0);
        Due.is("P42 but itself", x.feared(), 1);
        Due.is("P43 wolves", x.wolves(), 1);
        outlaw(x, 2);
        Due.is("P42 of like ones the lowest", x.feared(), 1);
        Due.is("P43 wolves", x.wolves(), 5);
        outlaw(x, 3);
        Due.is("P42 the most", x.feared(), 1);
        Due.is("P43 wolves", x.wolves(), 13);
        x.move(1, 1);
        Due.is("P42 an outlaw too", x.feared(), 0);
        x.kill(2, 1);
        x.move(1, 0);
        x.kill(0, 1);
        Due.is("P42 not the dead", x.feared(), 1);
        Due.is("P43 not the dead", x.wolves(), 8);
        x.pardon(3, 1);
        Due.is("P43 not the pardoned", x.wolves(), 0);
        Due.is("P42 none any more", x.feared(), -1);
        WolfsHead y = new WolfsHead();
        y.land(0);
        y.land(0);
        y.person(0, 0, 0, 0);
        outlaw(y, 0);
        Due.is("P42 alone", y.feared(), -1);
    }

    private static void paid() {
        WolfsHead x = village();
        Due.is("P44 others", x.paid(4, 0), -2);
        Due.is("P44 others", x.paid(-2, 0), -2);
        Due.is("P44 others", x.paid(0, -1), -2);
        Due.is("P44 others", x.paid(0, 10000), -2);
        Due.is("P44 none yet", x.paid(-1, 0), 0);
        for (int i = 1; i <= 8; i++) {
            Due.is("P44 paid", x.paid(i % 4, i == 1 ? 9999 : 0), i);
        }
        Due.is("P44 there are 8", x.paid(0, 0), -2);
        Due.is("P44 as many", x.about(8), 8);
        Due.is("P44 none any more", x.paid(-1, 99999), 0);
        Due.is("P44 none any more", x.about(8), 0);
        Due.is("P44 anew", x.paid(3, 5), 1);
    }

    private static void whose() {
        WolfsHead x = village();
        Due.is("P45 no texts", x.whose(), 0);
        Due.text(x, "price 100;");
        Due.text(x, "price fear*10+debts;");
        Due.text(x, "earns 3;");
        Due.text(x, "price if out=0 then 70 else 100 end;");
        Due.is("P45 none paid", x.whose(), 15);
        x.paid(0, 70);
        Due.is("P45 70 of the first", x.whose(), 0b1010);
        x.paid(1, 50);
        Due.is("P45 and 50 of the second", x.whose(), 0b0010);
        x.paid(-1, 0);
        x.paid(2, 100);
        Due.is("P45 100: without too", x.whose(), 0b0101);
        outlaw(x, 2);
        Due.text(x, "");
        x.by(1);
        x.month(1);
        Due.is("P45 alive in the forest", x.of(2, 7), 1);
        Due.is("P45 as now", x.whose(), 0b1001);
        x.paid(2, 99);
        Due.is("P45 no one's", x.whose(), 0);
    }

    private static void image() {
        WolfsHead x = village();
        x.month(3);
        Due.is("P46 month", x.image(), 3);
        x.month(4);
        outlaw(x, 1);
        x.land(2);
        Due.is("P47 month", x.back(), 3);
        Due.is("P47 month", x.is(0), 3);
        Due.is("P47 free", x.of(1, 7), 0);
        Due.is("P47 lands", x.about(0), 2);
        Due.is("P47 steps", x.about(4), 3);
        Due.is("P47 the steps themselves", x.undo(), 2);
        Due.is("P47 the steps themselves", x.is(0), 2);
        Due.is("P47 it stays", x.back(), 3);
        Due.is("P47 it stays", x.undo(), 2);
        Due.is("P46 anew", x.image(), 2);
        x.month(1);
        Due.is("P47 the new one", x.back(), 2);
        x.feed(0x6c616e64, 0, 0, 0, 0);
        x.image();
        x.end(4);
        x.text();
        Due.is("P46 but the fault", x.fault(1), 4);
        x.feed(0x6c616e64, 0, 0, 0, 0);
        x.end(3);
        x.back();
        Due.is("P47 the fault stays", x.fault(1), 4);
        Due.is("P47 the tape stays", x.about(9), 3);
    }

    private static void imageHoldsAll() {
        WolfsHead x = village();
        Due.text(x, "earns 1;");
        Due.text(x, "earns 2;");
        x.by(1);
        x.reports(3);
        x.unlike(0, 1);
        x.crowd(1);
        x.borders(2);
        outlaw(x, 1);
        x.month(1);
        x.paid(0, 100);
        x.has(true, 0, 0, 7);
        x.call(0, 0);
        x.month(2);
        x.image();
        Due.text(x, "earns 3;");
        x.by(2);
        x.road(0, 1);
        x.land(1);
        x.road(0, 2);
        x.reports(5);
        x.unlike(3, 4);
        x.crowd(-1);
        x.borders(5);
        x.paid(-1, 0);
        x.paid(1, 120);
        x.has(true, 0, 0, 0);
        x.person(2, 9, 9, 9);
        x.reigns(77, 40);
        x.month(60);
        x.back();
        int[] due = {2, 4, 2, 1, 9, 1, 3, 1, 1};
        for (int what = 0; what < 9; what++) {
            Due.is("P47 about " + what, x.about(what), due[what]);
        }
        Due.is("P47 X", x.is(1), 26355);
        Due.is("P47 book", x.book(-1, 0), 2);
        Due.is("P47 goods", x.of(0, 2), 506);
        Due.is("P47 earns", x.of(0, 11), 2);
        Due.is("P47 roads", x.ofLand(0, 1), 2);
        Due.is("P47 border", x.toBorder(0), 1);
        Due.is("P47 heads", x.heads(1), 1);
        Due.is("P47 crowd", x.inCrowd(1, 1, 0), 1);
        Due.is("P47 rests", x.rests(), 11);
        Due.is("P47 whose", x.whose(), 3);
        Due.is("P47 a text anew", Due.text(x, "earns 4;"), 2);
        x.by(2);
        Due.is("P47 a text anew", x.of(0, 11), 4);
        Due.is("P47 a land anew", x.land(3), 2);
        Due.is("P47 a land anew has no roads", x.ofLand(2, 1), 0);
        Due.is("P47 a person anew", x.person(2, 1, 2, 3), 4);
        Due.is("P47 a person anew", x.of(4, 1), 1);
        Due.is("P47 the step ahead of it", x.undo(), 8);
        Due.is("P47 as told anew", x.of(4, 2), 2);
    }
}
