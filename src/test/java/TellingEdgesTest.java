/** Promises 1 to 9, sentence by sentence, where they name a bound or a refusal. */
public final class TellingEdgesTest {
    private static final int BLANKS = 0x20202020;

    public static void main(String[] args) {
        anew();
        lands();
        landsAreFull();
        roads();
        persons();
        personsAreFull();
        firstState();
        feed();
        feedOrder();
        end();
        textEmpties();
        textRefused();
        textsAreFull();
        fault();
        by();
        Due.done();
    }

    private static void anew() {
        WolfsHead x = new WolfsHead();
        new Says(1, "No LANDS; THE IMAGE is this.").is("about(0)", x.about(0), 0).is("back()", x.back(), 0)
            .alike("behind back()", x, new WolfsHead());
        WolfsHead y = Scene.village();
        Due.text(y, "earns 5;");
        y.by(0);
        y.month(3);
        y.crowd(0);
        y.borders(255);
        y.reports(3);
        y.unlike(0, 1);
        y.has(false, 0, 0, 5);
        y.paid(0, 7);
        new Says(1, "No LANDS; THE IMAGE is this.").is("back()", y.back(), 0).is("texts", y.about(2), 0)
            .is("rests()", y.rests(), 15).is("by(0)", y.by(0), false).is("land(7)", y.land(7), 0)
            .is("toBorder(0)", y.toBorder(0), -1).is("undo()", y.undo(), -1).is("played(0)", y.played(0), -2);
        new Says(1, "MONTH 0 .. 9999 (at first 0). X: at first 149.").is("is(0)", new WolfsHead().is(0), 0)
            .is("is(1)", new WolfsHead().is(1), 149);
        new Says(1, "THE TEXT (told; at first none) rules.").is("about(3)", new WolfsHead().about(3), -1);
        new Says(1, "what each has is told for all four (0 .. 99; at first 0)").is("rests()", new WolfsHead().rests(), 15)
            .is("mixed(false)", new WolfsHead().mixed(false), -1);
    }

    private static void lands() {
        WolfsHead x = new WolfsHead();
        Says says = new Says(2, "LANDS 0 .. 7 (told one by one): FOREST 0 .. 9. NONE for others");
        says.is("land(-1)", x.land(-1), -1).is("land(10)", x.land(10), -1);
        for (int odd : Scene.ODD) {
            says.is("land(" + odd + ")", x.land(odd), -1);
        }
        says.is("about(0)", x.about(0), 0);
        says.is("land(0)", x.land(0), 0).is("land(10)", x.land(10), -1).is("land(9)", x.land(9), 1);
        says.is("forest 0", x.ofLand(0, 0), 0).is("forest 9", x.ofLand(1, 0), 9);
        says.is("no step", x.about(4), 0);
    }

    private static void landsAreFull() {
        WolfsHead x = new WolfsHead();
        Says says = new Says(2, "NONE for others, or if there are 8.");
        for (int i = 0; i < 8; i++) {
            says.is("land(" + i + ")", x.land(i), i);
        }
        WolfsHead y = new WolfsHead();
        for (int i = 0; i < 8; i++) {
            y.land(i);
        }
        says.is("land(3)", x.land(3), -1).is("land(3)", x.land(3), -1).alike("nothing is done", x, y);
        x.back();
        says.is("land(3) behind back()", x.land(3), 0);
    }

    private static void roads() {
        WolfsHead x = new WolfsHead();
        Says others = new Says(3, "False for others (unlike ones), and if there is one.");
        others.is("without lands", x.road(0, 1), false);
        x.land(0);
        others.is("one land", x.road(0, 0), false).is("one land", x.road(0, 1), false);
        x.land(0);
        x.land(0);
        others.is("road(-1, 0)", x.road(-1, 0), false).is("road(0, -1)", x.road(0, -1), false);
        others.is("road(0, 3)", x.road(0, 3), false).is("road(3, 0)", x.road(3, 0), false);
        others.is("road(1, 1)", x.road(1, 1), false).is("road(3, 3)", x.road(3, 3), false);
        for (int odd : Scene.ODD) {
            others.is("road(0, " + odd + ")", x.road(0, odd), false).is("road(" + odd + ", 1)", x.road(odd, 1), false);
            others.is("road of two alike", x.road(odd, odd), false);
        }
        for (int land = 0; land < 3; land++) {
            others.is("none of these", x.ofLand(land, 1), 0);
        }
        others.is("road(2, 0)", x.road(2, 0), true).is("road(2, 0)", x.road(2, 0), false);
        others.is("road(0, 2)", x.road(0, 2), false).is("no step", x.about(4), 0);
        new Says(3, "ROADS of two unlike LANDS (told; both ways).").is("of 0", x.ofLand(0, 1), 4)
            .is("of 2", x.ofLand(2, 1), 1).is("of 1", x.ofLand(1, 1), 0);
        WolfsHead y = new WolfsHead();
        for (int i = 0; i < 8; i++) {
            y.land(0);
        }
        Says all = new Says(3, "A ROAD: true.");
        for (int i = 0; i < 8; i++) {
            for (int j = 0; j < i; j++) {
                all.is("road(" + i + ", " + j + ")", y.road(i, j), true);
            }
        }
        for (int i = 0; i < 8; i++) {
            all.is("all roads of " + i, y.ofLand(i, 1), 255 - (1 << i));
        }
    }

    private static void persons() {
        WolfsHead x = new WolfsHead();
        Says says = new Says(4, "a LAND, FEAR 0 .. 9, GOODS 0 .. 9999, DEBTS 0 .. 9999: NONE for others");
        says.is("without lands", x.person(0, 0, 0, 0), -1);
        x.land(0);
        says.is("land -1", x.person(-1, 0, 0, 0), -1).is("land 1", x.person(1, 0, 0, 0), -1);
        says.is("fear -1", x.person(0, -1, 0, 0), -1).is("fear 10", x.person(0, 10, 0, 0), -1);
        says.is("goods -1", x.person(0, 0, -1, 0), -1).is("goods 10000", x.person(0, 0, 10000, 0), -1);
        says.is("debts -1", x.person(0, 0, 0, -1), -1).is("debts 10000", x.person(0, 0, 0, 10000), -1);
        says.is("land MIN", x.person(Integer.MIN_VALUE, 0, 0, 0), -1).is("land 8", x.person(8, 0, 0, 0), -1);
        for (int odd : new int[] {Integer.MIN_VALUE, Integer.MAX_VALUE}) {
            says.is("land " + odd, x.person(odd, 0, 0, 0), -1).is("fear " + odd, x.person(0, odd, 0, 0), -1);
            says.is("goods " + odd, x.person(0, 0, odd, 0), -1).is("debts " + odd, x.person(0, 0, 0, odd), -1);
        }
        says.is("none of these", x.about(1), 0);
        says.is("the least", x.person(0, 0, 0, 0), 0).is("the most", x.person(0, 9, 9999, 9999), 1);
        says.is("fear", x.of(1, 1), 9).is("goods", x.of(1, 2), 9999).is("debts", x.of(1, 3), 9999);
        says.is("no step", x.about(4), 0);
    }

    private static void personsAreFull() {
        WolfsHead x = Scene.row(0, 0);
        WolfsHead y = Scene.row(0, 0);
        Says says = new Says(4, "NONE for others, or if there are 6.");
        for (int i = 0; i < 6; i++) {
            says.is("person", x.person(i % 2, i, i, i), i);
            y.person(i % 2, i, i, i);
        }
        says.is("the 7th", x.person(0, 0, 0, 0), -1).is("the 7th", x.person(1, 9, 9, 9), -1);
        says.alike("nothing is done", x, y);
    }

    private static void firstState() {
        WolfsHead x = Scene.row(0, 0);
        x.month(7);
        x.person(1, 4, 5, 6);
        Says says = new Says(4, "CALLS 0 .. 5, HUNGER 0 .. 9, OUT (MONTHS as an outlaw) 0 .. 9999 (at first 0 each); "
            + "how it is: 0 free, 1 an outlaw, 2 pardoned, 3 dead (at first free).");
        int[] due = {1, 4, 5, 6, 0, 0, 0, 0};
        for (int what = 0; what < due.length; what++) {
            says.is("of(0, " + what + ")", x.of(0, what), due[what]);
        }
    }

    private static void feed() {
        WolfsHead x = new WolfsHead();
        Says says = new Says(5, "NONE, and none come, if there would be more than 300.");
        for (int i = 1; i <= 15; i++) {
            says.is("feed", x.feed(BLANKS, BLANKS, BLANKS, BLANKS, BLANKS), 20 * i);
        }
        says.is("320", x.feed(-1, -1, -1, -1, -1), -1).is("about(9)", x.about(9), 300);
        x.end(299);
        says.is("319", x.feed(-1, -1, -1, -1, -1), -1).is("about(9)", x.about(9), 299);
        x.end(281);
        says.is("301", x.feed(-1, -1, -1, -1, -1), -1).is("about(9)", x.about(9), 281);
        x.end(280);
        says.is("300", x.feed(BLANKS, BLANKS, BLANKS, BLANKS, 0x2020203b), 300);
        says.is("what was refused is nowhere", x.text(), -1).is("but the last byte", x.fault(1), 299);
        says.is("empty again", x.feed(0, 0, 0, 0, 0), 20);
    }

    private static void feedOrder() {
        Says says = new Says(5, "Twenty bytes come behind the tape, the highest of a first: how many it has.");
        for (int at = 0; at < 20; at++) {
            int[] words = {BLANKS, BLANKS, BLANKS, BLANKS, BLANKS};
            words[at / 4] ^= (0x20 ^ ';') << 24 - 8 * (at % 4);
            WolfsHead x = new WolfsHead();
            says.is("feed", x.feed(words[0], words[1], words[2], words[3], words[4]), 20);
            x.text();
            says.is("the byte " + at, x.fault(1), at);
        }
        WolfsHead y = new WolfsHead();
        y.feed(BLANKS, BLANKS, BLANKS, BLANKS, BLANKS);
        y.end(7);
        says.is("behind what is left", y.feed(BLANKS, 0x3b202020, BLANKS, BLANKS, BLANKS), 27);
        y.text();
        says.is("behind what is left", y.fault(1), 11);
    }

    private static void end() {
        WolfsHead x = new WolfsHead();
        Says says = new Says(6, "NONE, and nothing is done, if it has not so many, or n is below 0.");
        says.is("end(1) of none", x.end(1), -1).is("end(0) of none", x.end(0), 0);
        x.feed(BLANKS, BLANKS, BLANKS, BLANKS, BLANKS);
        says.is("end(21)", x.end(21), -1).is("end(-1)", x.end(-1), -1).is("about(9)", x.about(9), 20);
        for (int odd : Scene.ODD) {
            says.is("end(" + odd + ")", x.end(odd), -1);
        }
        says.is("about(9)", x.about(9), 20).is("end(20)", x.end(20), 20).is("about(9)", x.about(9), 20);
        new Says(6, "The tape has its first n bytes alone: n.").is("end(19)", x.end(19), 19)
            .is("about(9)", x.about(9), 19).is("end(20)", x.end(20), -1).is("end(0)", x.end(0), 0)
            .is("about(9)", x.about(9), 0).is("end(1)", x.end(1), -1);
        WolfsHead y = new WolfsHead();
        Due.tape(y, "land 3;land 4;");
        y.end(7);
        y.text();
        y.played(0);
        new Says(6, "The tape has its first n bytes alone: n.").is("the first clause", y.about(0), 1);
    }

    private static void textEmpties() {
        WolfsHead x = new WolfsHead();
        new Says(7, "The tape (empty then) is a TEXT: its number.").is("of no bytes", x.text(), 0)
            .is("of blanks", Due.text(x, " \n \n\n  "), 1).is("about(9)", x.about(9), 0)
            .is("of 300 bytes", Due.text(x, "land 3;" + " ".repeat(292) + "\n"), 2).is("about(9)", x.about(9), 0)
            .is("played(2)", x.played(2), -1).is("it is that one", x.ofLand(0, 0), 3)
            .is("of 300 bytes and no blank", Due.text(x, "finds " + "1+".repeat(146) + "1;"), 3);
    }

    private static void textRefused() {
        WolfsHead x = new WolfsHead();
        Due.text(x, "land 3;");
        new Says(7, "NONE: it has a FAULT").is("text()", Due.text(x, "land 4;land 10;"), -1)
            .is("no TEXT", x.about(2), 1).is("played(1)", x.played(1), -2).is("by(1)", x.by(1), false)
            .is("empty then", x.about(9), 0).is("the next", Due.text(x, "land 5;"), 1)
            .is("the first stays", x.played(0), -1).is("the first stays", x.ofLand(0, 0), 3)
            .is("the next is itself", x.played(1), -1).is("the next is itself", x.ofLand(1, 0), 5)
            .is("and no more", x.about(0), 2);
    }

    private static void textsAreFull() {
        WolfsHead x = new WolfsHead();
        Says says = new Says(7, "or (the tape stays) there are 4.");
        for (int i = 0; i < 4; i++) {
            says.is("text()", Due.text(x, "land " + i + ";"), i);
        }
        Due.tape(x, "land 8;");
        says.is("the fifth", x.text(), -1).is("the tape stays", x.about(9), 7).is("about(2)", x.about(2), 4);
        says.is("it isn't read", x.fault(0), 0);
        Due.tape(x, "wolf");
        says.is("the fifth with a fault", x.text(), -1).is("the tape stays", x.about(9), 4);
        says.is("it isn't read", x.fault(0), 0).is("it isn't read", x.fault(1), -1);
        for (int i = 0; i < 4; i++) {
            says.is("played(" + i + ")", x.played(i), -1).is("as it was told", x.ofLand(i, 0), i);
        }
        x.back();
        says.is("behind back() it is read", x.text(), -1).is("behind back() it is read", x.fault(0), 1);
    }

    private static void fault() {
        WolfsHead x = new WolfsHead();
        Says others = new Says(8, "NONE for others, and ahead of any.");
        others.is("ahead", x.fault(0), -1).is("ahead", x.fault(1), -1);
        x.feed(0, 0, 0, 0, 0);
        others.is("fed, not read", x.fault(0), -1).is("fed, not read", x.fault(1), -1);
        x.end(0);
        x.text();
        new Says(8, "0 its FAULT (0 without), 1 its place (NONE without).").is("without", x.fault(0), 0)
            .is("without", x.fault(1), -1);
        Due.text(x, " ;");
        new Says(8, "0 its FAULT (0 without), 1 its place (NONE without).").is("with", x.fault(0), 1)
            .is("with", x.fault(1), 1);
        others.is("fault(2)", x.fault(2), -1).is("fault(-1)", x.fault(-1), -1);
        for (int odd : Scene.ODD) {
            others.is("fault(" + odd + ")", x.fault(odd), -1);
        }
        new Says(8, "Of the latest text that was read").is("a later one", Due.text(x, "land 1;"), 1)
            .is("fault(0)", x.fault(0), 0).is("fault(1)", x.fault(1), -1);
    }

    private static void by() {
        WolfsHead x = Scene.row(0);
        x.person(0, 0, 0, 0);
        Says says = new Says(9, "THE TEXT (NONE: none): true. False for others.");
        says.is("by(0) without any", x.by(0), false).is("by(NONE) without any", x.by(-1), true);
        for (int i = 0; i < 4; i++) {
            Due.text(x, "earns " + (20 + i) + ";");
            says.is("by the last", x.by(i), true).is("earns", x.of(0, 11), 20 + i);
            says.is("by one beyond", x.by(i + 1), false).is("it stays", x.about(3), i);
        }
        says.is("by(-2)", x.by(-2), false).is("by(4)", x.by(4), false);
        for (int odd : Scene.ODD) {
            says.is("by(" + odd + ")", x.by(odd), false);
        }
        says.is("it stays", x.of(0, 11), 23).is("by(0)", x.by(0), true).is("earns", x.of(0, 11), 20);
        says.is("by(NONE)", x.by(-1), true).is("earns", x.of(0, 11), 10).is("about(3)", x.about(3), -1);
        says.is("no step", x.about(4), 0);
    }
}
