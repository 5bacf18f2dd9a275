/** Promises 40 to 48, sentence by sentence, where they name a bound or a refusal. */
public final class BookEdgesTest {
    public static void main(String[] args) {
        befellOthers();
        befellForgets();
        heirs();
        feared();
        wolves();
        paidOthers();
        paidIsFull();
        whoseEdges();
        whoseAsNow();
        image();
        imageButTheTape();
        imageHoldsAll();
        imageHoldsTexts();
        back();
        about();
        longRun();
        Due.done();
    }

    private static void befellOthers() {
        Says says = new Says(40, "BY THE BOOK: how many of a what (0 .. 6), of a PERSON (NONE: of all). -2 for others.");
        WolfsHead x = Scene.village();
        for (int what = 0; what <= 6; what++) {
            says.is("none yet", x.befell(-1, what), 0).is("none of 4 yet", x.befell(4, what), 0);
            says.is("person 5", x.befell(5, what), -2).is("person -2", x.befell(-2, what), -2).is("person 6", x.befell(6, what), -2);
        }
        for (int person = -1; person < 5; person++) {
            says.is("what -1", x.befell(person, -1), -2).is("what 7", x.befell(person, 7), -2);
        }
        for (int odd : Scene.ODD) {
            says.is("person " + odd, x.befell(odd, 0), -2).is("what " + odd, x.befell(0, odd), -2);
        }
        says.is("without persons", Scene.row(0).befell(0, 0), -2).is("without persons, of all", Scene.row(0).befell(-1, 6), 0);
    }

    private static void befellForgets() {
        Says says = new Says(40, "BY THE BOOK: how many: of the latest 30");
        WolfsHead x = Scene.village();
        x.call(3, 1);
        for (int i = 0; i < 29; i++) {
            x.call(4, 2);
        }
        says.is("all", x.befell(-1, 0), 30).is("the eldest", x.befell(3, 0), 1);
        x.call(4, 2);
        says.is("all", x.befell(-1, 0), 30).is("the eldest is gone", x.befell(3, 0), 0).is("the others", x.befell(4, 0), 30);
        x.undo();
        says.is("it is there again", x.befell(3, 0), 1);
        x.call(4, 2);
        Scene.outlaw(x, 0);
        says.is("one of another what", x.befell(-1, 1), 1).is("one less", x.befell(-1, 0), 29);
    }

    private static void heirs() {
        Says says = new Says(41, "HEIRS: PERSONS (bits) in the LAND of one, but it, not dead. NONE for others.");
        WolfsHead x = Scene.village();
        says.is("heirs(0)", x.heirs(0), 6).is("heirs(1)", x.heirs(1), 5).is("alone", x.heirs(4), 0);
        says.is("heirs(-1)", x.heirs(-1), -1).is("heirs(5)", x.heirs(5), -1).is("heirs(6)", x.heirs(6), -1);
        for (int odd : Scene.ODD) {
            says.is("heirs(" + odd + ")", x.heirs(odd), -1);
        }
        says.is("without persons", Scene.row(0).heirs(0), -1);
        Scene.killAndPardon(x, 0, 1);
        Scene.outlaw(x, 2);
        says.is("of a dead one", x.heirs(0), 6).is("not the dead", x.heirs(1), 4).is("not the dead", x.heirs(2), 2);
        x.move(3, 0);
        says.is("who came", x.heirs(0), 14).is("of whom came", x.heirs(3), 6);
    }

    private static void feared() {
        Says says = new Says(42, "MOST FEARED: the one that isn't dead in whose LAND most outlaws are (but it); of like ones the lowest; "
            + "none (no one with any). NONE: none.");
        says.is("without persons", new WolfsHead().feared(), -1);
        WolfsHead x = Scene.village();
        says.is("no outlaws", x.feared(), -1);
        Scene.outlaw(x, 4);
        says.is("an outlaw alone", x.feared(), -1);
        Scene.outlaw(x, 0);
        says.is("but it", x.feared(), 1);
        Scene.outlaw(x, 1);
        says.is("two by 2, one by each of these", x.feared(), 2);
        x.move(2, 1);
        says.is("two of one each", x.feared(), 0);
        x.kill(0, 1);
        says.is("killed, and pardoned by it", x.feared(), -1);
        WolfsHead y = Scene.village();
        Scene.killAndPardon(y, 0, 1);
        Scene.outlaw(y, 2);
        says.is("not the dead", y.feared(), 1);
        WolfsHead z = Scene.village();
        Scene.outlaw(z, 3);
        z.move(0, 1);
        Scene.outlaw(z, 1);
        says.is("of like ones the lowest", z.feared(), 0);
        z.road(1, 2);
        z.move(4, 1);
        says.is("of like ones the lowest", z.feared(), 0);
        Scene.outlaw(z, 4);
        says.is("two are more", z.feared(), 0);
        z.move(0, 0);
        says.is("back to one: 0 has 1, 3 has 1", z.feared(), 0);
    }

    private static void wolves() {
        Says says = new Says(43, "WOLVES: outlaws (bits).");
        says.is("without persons", new WolfsHead().wolves(), 0).is("none", Scene.village().wolves(), 0);
        WolfsHead x = Scene.village();
        x.person(2, 0, 0, 0);
        for (int i = 0; i < 6; i++) {
            Scene.outlaw(x, i);
            says.is("up to " + i, x.wolves(), (2 << i) - 1);
        }
        x.kill(0, 1);
        says.is("not the dead, nor the pardoned", x.wolves(), 0b111100);
        Scene.rule(x, "price 0;");
        x.pardon(5, 5);
        says.is("not the pardoned", x.wolves(), 0b011100);
    }

    private static void paidOthers() {
        Says says = new Says(44, "PAID: how many there are (person NONE: none any more). -2 for others: an outlaw or not, a price 0 .. 9999");
        WolfsHead x = Scene.village();
        says.is("paid(5, 0)", x.paid(5, 0), -2).is("paid(-2, 0)", x.paid(-2, 0), -2).is("paid(6, 0)", x.paid(6, 0), -2);
        says.is("paid(0, -1)", x.paid(0, -1), -2).is("paid(0, 10000)", x.paid(0, 10000), -2);
        for (int odd : Scene.ODD) {
            says.is("person " + odd, x.paid(odd, 0), -2);
        }
        says.is("price MIN", x.paid(0, Integer.MIN_VALUE), -2).is("price MAX", x.paid(0, Integer.MAX_VALUE), -2);
        says.is("none of these", x.about(8), 0).is("without persons", Scene.row(0).paid(0, 0), -2);
        Scene.killAndPardon(x, 0, 1);
        Scene.outlaw(x, 2);
        says.is("a dead one", x.paid(0, 0), 1).is("a pardoned one", x.paid(1, 9999), 2).is("an outlaw", x.paid(2, 1), 3);
        says.is("a free one", x.paid(4, 1), 4).is("the same", x.paid(4, 1), 5).is("no step", x.about(4), 16);
        says.is("none any more", x.paid(-1, 0), 0).is("about(8)", x.about(8), 0).is("none any more", x.paid(-1, 7), 0);
    }

    private static void paidIsFull() {
        Says says = new Says(44, "-2 for others, or if there are 8.");
        WolfsHead x = Scene.village();
        Due.text(x, "price who;");
        for (int i = 1; i <= 8; i++) {
            says.is("paid " + i, x.paid(i % 5, i % 5), i);
        }
        says.is("the 9th", x.paid(0, 5), -2).is("about(8)", x.about(8), 8).is("it isn't there", x.whose(), 1);
        says.is("none any more", x.paid(-1, 0), 0).is("anew", x.paid(0, 5), 1).is("it is there", x.whose(), 0);
    }

    private static void whoseEdges() {
        Says says = new Says(45, "WHOSE LAW .. TEXTS (bits) by whose price all are so (of each as now).");
        says.is("no texts", new WolfsHead().whose(), 0);
        WolfsHead x = Scene.village();
        x.paid(0, 100);
        says.is("no texts", x.whose(), 0);
        Due.text(x, "price 100;");
        Due.text(x, "");
        Due.text(x, "price 99;");
        says.is("the first, and one without price", x.whose(), 3).is("whatever THE TEXT is", x.by(2), true);
        says.is("whatever THE TEXT is", x.whose(), 3).is("none paid", x.paid(-1, 0), 0).is("none paid: all", x.whose(), 7);
        Due.text(x, "price 9999*9999;");
        x.paid(0, 9999);
        says.is("9999 at most", x.whose(), 8);
        x.paid(-1, 0);
        x.paid(0, 0);
        says.is("no one's", x.whose(), 0);
        WolfsHead y = Scene.village();
        Due.text(y, "price 0-5;");
        y.paid(0, 0);
        says.is("0 at least", y.whose(), 1);
        y.paid(1, 0);
        y.paid(2, 1);
        says.is("all are so, or it isn't", y.whose(), 0);
    }

    private static void whoseAsNow() {
        Says says = new Says(45, "by whose price all are so (of each as now)");
        WolfsHead x = Scene.village();
        Scene.outlaw(x, 0);
        Scene.rule(x, "finds 0;price 100+20*out;");
        Due.text(x, "price goods+month;");
        Due.text(x, "");
        x.paid(0, 100);
        says.is("OUT 0", x.whose(), 5);
        x.month(1);
        says.is("OUT 1", x.whose(), 0);
        x.paid(-1, 0);
        x.paid(0, 120);
        says.is("OUT 1", x.whose(), 5);
        x.paid(-1, 0);
        x.paid(1, 211);
        says.is("GOODS and MONTH now", x.whose(), 2);
        x.undo();
        says.is("as it was", x.whose(), 0);
    }

    private static void image() {
        Says says = new Says(46, "THE IMAGE is as all is now: MONTH.");
        WolfsHead x = new WolfsHead();
        says.is("a new one", x.image(), 0);
        x.month(60);
        says.is("MONTH", x.image(), 60).is("no step", x.about(4), 30);
        x.month(1);
        says.is("the latest one", x.back(), 60).is("again", x.image(), 60);
        WolfsHead y = Scene.late(Scene.village());
        y.month(39);
        says.is("the last MONTH", y.image(), 9999);
        y.undo();
        says.is("back()", y.back(), 9999).is("is(0)", y.is(0), 9999).is("undo()", y.undo(), 29);
    }

    private static void imageButTheTape() {
        Says says = new Says(46, "AN IMAGE: all as it is, but the tape and the latest FAULT.");
        WolfsHead x = new WolfsHead();
        Due.text(x, "land 10;");
        x.feed(0, 0, 0, 0, 0);
        x.image();
        x.end(3);
        says.is("back()", x.back(), 0).is("the tape as it is", x.about(9), 3).is("the fault as it is", x.fault(0), 2);
        Due.text(x, "finds crowd goods;");
        Due.tape(x, "land 3;");
        says.is("back()", x.back(), 0).is("the fault as it is", x.fault(0), 1).is("its place", x.fault(1), 12);
        says.is("the tape as it is", x.about(9), 7).is("it is a TEXT", x.text(), 0).is("played(0)", x.played(0), -1);
        x.back();
        says.is("read without a fault", x.fault(0), 0).is("an empty tape", x.about(9), 0).is("no text", x.about(2), 0);
        WolfsHead y = new WolfsHead();
        y.text();
        y.back();
        says.is("ahead of the first image", y.fault(0), 0);
    }

    /** Tells all that can be told, in one of two ways. */
    private static WolfsHead told(int way) {
        WolfsHead x = Scene.village();
        Scene.rule(x, way == 0 ? "earns 7;finds 0;" : "earns 8;finds 0;");
        Scene.outlaw(x, way);
        x.month(2 + way);
        x.crowd(way);
        x.borders(1 << way);
        x.reports(3 + way);
        x.unlike(0, 2);
        x.has(way == 0, 0, 0, 9);
        x.paid(way, 100);
        x.call(2, 0);
        return x;
    }

    private static String askedOf(WolfsHead x) {
        StringBuilder b = new StringBuilder(Scene.all(x));
        b.append(" ; ").append(x.toBorder(0)).append(' ').append(x.inCrowd(0, 1, 0)).append(' ').append(x.heads(2));
        b.append(' ').append(x.wolves()).append(' ').append(x.whose()).append(' ').append(x.foretold(9, 2, true));
        for (int i = 0; i < 4; i++) {
            b.append(" ; ").append(x.undo()).append(' ').append(x.is(0)).append(' ').append(x.of(3, 2)).append(' ').append(x.wolves());
        }
        return b.toString();
    }

    private static void imageHoldsAll() {
        Says says = new Says(47, "BACK: all is so again.");
        WolfsHead x = told(0);
        x.image();
        x.land(5);
        x.road(0, 2);
        x.road(3, 1);
        x.person(3, 1, 1, 1);
        Scene.rule(x, "earns 99;");
        x.reigns(77, 40);
        x.month(40);
        x.crowd(-1);
        x.crowd(2);
        x.borders(8);
        x.reports(8);
        x.unlike(6, 7);
        x.unlike(5, 7);
        x.has(true, 0, 0, 1);
        x.has(false, 1, 1, 50);
        x.paid(2, 44);
        x.back();
        String due = askedOf(told(0));
        String got = askedOf(x);
        says.is("[" + got + "] is not [" + due + "]", got.equals(due), true);
        says.is("another way isn't the same", askedOf(told(1)).equals(due), false);
        x.back();
        got = askedOf(x);
        says.is("[" + got + "] a second time is not [" + due + "]", got.equals(due), true);
    }

    private static void imageHoldsTexts() {
        Says says = new Says(47, "BACK: all is so again: TEXTS and THE TEXT too");
        WolfsHead x = Scene.village();
        Scene.rule(x, "earns 21;");
        x.image();
        Scene.rule(x, "earns 22;");
        Scene.rule(x, "earns 23;land 3;");
        x.back();
        says.is("texts", x.about(2), 1).is("THE TEXT", x.about(3), 0).is("earns", x.of(0, 11), 21).is("by(1)", x.by(1), false);
        says.is("played(1)", x.played(1), -2).is("a second one anew", Due.text(x, "earns 24;"), 1).is("by(1)", x.by(1), true);
        says.is("earns", x.of(0, 11), 24).is("played(1)", x.played(1), -1).is("lands", x.about(0), 3);
        x.image();
        x.by(-1);
        x.back();
        says.is("THE TEXT", x.about(3), 1).is("earns", x.of(0, 11), 24);
        says.is("a fault in the next", Due.text(x, "earns 25;hungers 9;wolf"), -1).is("earns yet", x.of(0, 11), 24);
        x.back();
        says.is("earns yet", x.of(0, 11), 24).is("hungers yet", x.of(0, 8), 1);
    }

    private static void back() {
        Says says = new Says(47, "BACK to THE IMAGE (it stays): MONTH.");
        WolfsHead x = Scene.village();
        x.month(5);
        x.image();
        for (int i = 0; i < 3; i++) {
            x.month(i + 1);
            x.land(0);
            says.is("back()", x.back(), 5).is("MONTH", x.is(0), 5).is("lands", x.about(0), 3).is("steps", x.about(4), 5);
        }
        x.undo();
        x.undo();
        says.is("steps taken back are there again", x.back(), 5).is("about(4)", x.about(4), 5).is("undo()", x.undo(), 4);
        says.is("MONTH", x.is(0), 4);
        WolfsHead y = Scene.village();
        y.month(60);
        y.image();
        y.month(33);
        y.back();
        for (int i = 29; i >= 0; i--) {
            says.is("the steps themselves", y.undo(), i).is("MONTH", y.is(0), 30 + i);
        }
        says.is("no more", y.undo(), -1);
    }

    private static void about() {
        Says says = new Says(48, "0 LANDS, 1 PERSONS, 2 TEXTS, 3 THE TEXT (NONE), 4 STEPS that can be taken back, 5 calls of IN THE CROWD, "
            + "6 REPORTS, 7 UNLIKE, 8 PAID, 9 bytes of the tape. -2 for others.");
        WolfsHead x = new WolfsHead();
        int[] least = {0, 0, 0, -1, 0, 0, 0, 0, 0, 0};
        for (int what = 0; what < 10; what++) {
            says.is("at first: about(" + what + ")", x.about(what), least[what]);
        }
        for (int i = 0; i < 8; i++) {
            x.land(0);
        }
        for (int i = 0; i < 6; i++) {
            x.person(i, 0, 0, 0);
        }
        for (int i = 0; i < 4; i++) {
            x.text();
        }
        x.by(3);
        x.month(60);
        for (int i = 0; i < 5; i++) {
            x.crowd(0);
        }
        x.reports(8);
        for (int i = 0; i < 8; i++) {
            x.unlike(i, (i + 1) % 8);
            x.paid(0, i);
        }
        for (int i = 0; i < 15; i++) {
            x.feed(0, 0, 0, 0, 0);
        }
        int[] most = {8, 6, 4, 3, 30, 5, 8, 8, 8, 300};
        for (int what = 0; what < 10; what++) {
            says.is("at most: about(" + what + ")", x.about(what), most[what]);
        }
        says.is("about(-1)", x.about(-1), -2).is("about(10)", x.about(10), -2);
        for (int odd : Scene.ODD) {
            says.is("about(" + odd + ")", x.about(odd), -2);
        }
    }

    /** An object goes on to its 512th call. */
    private static void longRun() {
        Says says = new Says(18, "An object is used for at most 512 calls after it has been made");
        WolfsHead x = new WolfsHead();
        for (int i = 0; i < 511; i++) {
            x.month(1);
        }
        says.is("the 512th", x.month(1), 0);
        WolfsHead y = new WolfsHead();
        for (int i = 0; i < 510; i++) {
            y.month(1);
        }
        says.is("the 511th", y.undo(), 29).is("the 512th", y.is(0), 509);
    }
}
