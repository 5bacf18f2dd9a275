/** Promises 16 to 18, sentence by sentence, where they name a bound or a refusal. */
public final class ScriptsEdgesTest {
    public static void main(String[] args) {
        playedOthers();
        playedAll();
        playedCannot();
        playedMonths();
        reignsOthers();
        reignsWithout();
        reignsSeed();
        reignsDeeds();
        reignsDraws();
        reignsLast();
        undoNone();
        undoThirty();
        undoRound();
        undoEach();
        undoRefused();
        undoRefusedWhenFull();
        undoStays();
        undoAsTold();
        Due.done();
    }

    private static void playedOthers() {
        Says says = new Says(16, "-2 for others.");
        WolfsHead x = Scene.village();
        says.is("without any", x.played(0), -2).is("played(-1)", x.played(-1), -2);
        Due.text(x, "month 1;");
        says.is("played(1)", x.played(1), -2).is("played(-1)", x.played(-1), -2).is("played(4)", x.played(4), -2);
        for (int odd : Scene.ODD) {
            says.is("played(" + odd + ")", x.played(odd), -2);
        }
        Due.text(x, "wolf");
        says.is("one with a fault", x.played(1), -2).is("nothing is done", x.is(0), 0).is("no step", x.about(4), 0);
    }

    private static void playedAll() {
        Says says = new Says(16, "NONE: all is done");
        WolfsHead x = new WolfsHead();
        Due.text(x, "");
        Due.text(x, "hungers 1;finds 1;price 1;earns 1;");
        says.is("of no CLAUSE", x.played(0), -1).is("of laws alone", x.played(1), -1);
        says.is("laws told by it don't rule", x.about(3), -1).alike("nothing is done", x, twoTexts());
        Due.text(x, "land 0;".repeat(8) + "person 7 fear 0 goods 0 debts 0;".repeat(6));
        says.is("all that can be told", x.played(2), -1).is("lands", x.about(0), 8).is("persons", x.about(1), 6);
        says.is("no step", x.about(4), 0).is("again", x.played(2), 0);
        WolfsHead z = new WolfsHead();
        Due.text(z, "land 8;land 6;person 1 fear 9 goods 9999 debts 9998;person 0 fear 3 goods 20 debts 1;");
        says.is("persons", z.played(0), -1).is("forest", z.ofLand(0, 0), 8).is("forest", z.ofLand(1, 0), 6);
        int[][] due = {{1, 9, 9999, 9998}, {0, 3, 20, 1}};
        for (int what = 0; what < 4; what++) {
            says.is("of(0, " + what + ")", z.of(0, what), due[0][what]).is("of(1, " + what + ")", z.of(1, what), due[1][what]);
        }
        WolfsHead y = Scene.village();
        Due.text(y, "month 1;earns 99;month 2;");
        y.by(0);
        says.is("twice", y.played(0), -1).is("twice", y.played(0), -1).is("MONTH", y.is(0), 6);
        says.is("it rules", y.of(4, 2), 594).is("steps", y.about(4), 6);
    }

    private static WolfsHead twoTexts() {
        WolfsHead x = new WolfsHead();
        Due.text(x, "");
        Due.text(x, "");
        return x;
    }

    private static void playedCannot() {
        Says says = new Says(16, "one that can't be ends it .. its number among all CLAUSES (from 0); what was done stays.");
        String[] cannot = {"road 0 to 1;", "road 1 to 0;", "road 2 to 2;", "road 0 to 7;", "person 7 fear 0 goods 0 debts 0;",
            "call 5 in 0;", "call 0 in 7;", "move 0 to 2;", "move 0 to 0;", "move 5 to 0;", "feed 0 by 1;", "kill 0 by 1;",
            "pardon 0 by 1;", "feed 5 by 5;"};
        for (String clause : cannot) {
            WolfsHead x = Scene.village();
            Due.text(x, clause + "month 1;");
            says.is("the first, " + clause, x.played(0), 0).is("nothing is done", x.is(0), 0);
            Due.text(x, "earns 1;month 1;finds 1;move 1 to 1;" + clause + "month 1;land 1;");
            says.is("the fifth, " + clause, x.played(1), 4).is("MONTH", x.is(0), 1).is("moved", x.of(1, 0), 1);
            says.is("steps", x.about(4), 2).is("lands", x.about(0), 3);
        }
        WolfsHead y = new WolfsHead();
        Due.text(y, "land 1;".repeat(9) + "month 1;");
        says.is("the ninth land", y.played(0), 8).is("eight", y.about(0), 8).is("MONTH", y.is(0), 0);
        WolfsHead z = Scene.village();
        Due.text(z, "person 0 fear 0 goods 0 debts 0;".repeat(2));
        says.is("the seventh person", z.played(0), 1).is("six", z.about(1), 6);
        WolfsHead w = new WolfsHead();
        Due.text(w, "month 1;".repeat(23) + "move 0 to 0;");
        says.is("the 24th", w.played(0), 23).is("MONTH", w.is(0), 23);
    }

    private static void playedMonths() {
        Says says = new Says(16, "one that can't be ends it (of so many MONTHS those that can pass do)");
        WolfsHead x = Scene.late(Scene.village());
        Due.text(x, "earns 5;month 39;land 1;");
        Due.text(x, "month 40;land 1;");
        Due.text(x, "land 1;month 60;land 1;");
        Due.text(x, "month 1;");
        x.image();
        says.is("just so many", x.played(0), -1).is("MONTH", x.is(0), 9999).is("lands", x.about(0), 4);
        says.is("none any more", x.played(3), 0).is("MONTH", x.is(0), 9999).is("steps", x.about(4), 30);
        x.back();
        says.is("one too many", x.played(1), 0).is("MONTH", x.is(0), 9999).is("it ended", x.about(0), 3);
        says.is("undo()", x.undo(), 29).is("MONTH", x.is(0), 9998);
        x.back();
        says.is("21 too many", x.played(2), 1).is("MONTH", x.is(0), 9999).is("it ended", x.about(0), 4);
    }

    private static void reignsOthers() {
        Says says = new Says(17, "REIGNS: MONTH. NONE for others: SEED (0 .. 9999), n times (1 .. 40)");
        WolfsHead x = Scene.village();
        says.is("reigns(-1, 1)", x.reigns(-1, 1), -1).is("reigns(10000, 1)", x.reigns(10000, 1), -1);
        says.is("reigns(0, 0)", x.reigns(0, 0), -1).is("reigns(0, 41)", x.reigns(0, 41), -1);
        says.is("reigns(0, -1)", x.reigns(0, -1), -1);
        for (int odd : Scene.ODD) {
            boolean seed = odd >= 0 && odd <= 9999;
            if (!seed) {
                says.is("seed " + odd, x.reigns(odd, 1), -1);
            }
            says.is("n " + odd, x.reigns(0, odd), -1);
        }
        says.alike("nothing is done", x, Scene.village());
        says.is("reigns(0, 1)", x.reigns(0, 1), 0).is("reigns(9999, 1) is taken", x.reigns(9999, 1) >= 0, true);
        says.is("reigns(0, 40) is taken", x.reigns(0, 40) >= 0, true).is("steps", x.about(4), 3);
    }

    private static void reignsWithout() {
        Says says = new Says(17, "NONE for others, and without PERSONS.");
        WolfsHead x = new WolfsHead();
        says.is("without LANDS", x.reigns(0, 1), -1);
        x.land(0);
        x.land(0);
        says.is("without PERSONS", x.reigns(2, 40), -1).is("X", x.is(1), 149).is("MONTH", x.is(0), 0).is("steps", x.about(4), 0);
        WolfsHead y = Scene.row(0);
        y.person(0, 0, 0, 0);
        says.is("one of each", y.reigns(2, 1), 1).is("X", y.is(1), Scene.anew(153));
    }

    private static void reignsSeed() {
        Says says = new Says(17, "X is SEED (0 .. 9999) * 2 + 149; n times (1 .. 40): x is X, X anew (as in a draw)");
        for (int seed : new int[] {0, 1, 2, 5000, 9998, 9999}) {
            WolfsHead x = Scene.row(0);
            x.person(0, 0, 0, 0);
            x.image();
            int drawn = seed * 2 + 149;
            for (int n = 1; n <= 40; n++) {
                drawn = Scene.anew(drawn);
                x.reigns(seed, n);
                says.is("seed " + seed + ", n " + n, x.is(1), drawn);
                x.back();
            }
        }
        WolfsHead y = Scene.village();
        y.reigns(17, 40);
        WolfsHead w = Scene.village();
        w.reigns(3, 9);
        w.undo();
        w.reigns(17, 40);
        says.alike("whatever X was", w, y);
    }

    /** A person alone, or two, and the first x alone: seeds by which each deed comes, and its edges. */
    private static void reignsDeeds() {
        Says says = new Says(17, "x mod 7, of PERSON x mod how many there are: 0, 1 it is CALLED in LAND x / 7 mod how many "
            + "there are; 2 MOVED there; 3 FED by PERSON x / 5 mod how many; .. 5 PARDONED by that one (each if it can be); "
            + "6 a MONTH");
        int[] came = new int[7];
        for (int seed = 0; seed < 350; seed++) {
            int v = seed * 2 + 149;
            WolfsHead x = huntsman();
            WolfsHead y = huntsman();
            x.reigns(seed, 1);
            came[v % 7] += byHand(y, v) ? 1 : 0;
            for (int what = 0; what < 8; what++) {
                for (int person = 0; person < 5; person++) {
                    says.is("x " + v + ": of(" + person + ", " + what + ")", x.of(person, what), y.of(person, what));
                }
            }
            says.is("x " + v + ": MONTH", x.is(0), y.is(0)).is("x " + v + ": book", x.book(-1, 0), y.book(-1, 0));
            says.is("x " + v + ": one step", x.about(4), 6);
            int drawn = Scene.anew(v);
            says.is("x " + v + ": X", x.is(1), y.is(1) == 149 ? drawn : Scene.anew(drawn));
        }
        for (int kind = 0; kind < 7; kind++) {
            says.is("kind " + kind + " came", came[kind] > 0, kind != 4);
        }
    }

    /** One outlaw, whose bread is always seen and who is never found. */
    private static WolfsHead huntsman() {
        WolfsHead x = Scene.village();
        Scene.outlaw(x, 1);
        Scene.rule(x, "hungers 1;finds if hunger=0 then 10 else 0 end;price 60;");
        return x;
    }

    /** Whether it could be. */
    private static boolean byHand(WolfsHead y, int v) {
        int whom = v % 5;
        int land = v / 7 % 3;
        int by = v / 5 % 5;
        switch (v % 7) {
            case 0:
            case 1:
                return y.call(whom, land) != -1;
            case 2:
                return y.move(whom, land);
            case 3:
                return y.feeds(whom, by) != -1;
            case 4:
                return v % 4 == 0 && y.kill(whom, by);
            case 5:
                return y.pardon(whom, by) != -1;
            default:
                return y.month(1) != -1;
        }
    }

    /** Deeds that draw take their draw from the same row of X. */
    private static void reignsDraws() {
        Says says = new Says(17, "4 KILLED by that one, if x mod 4 is 0: and X goes on by the draws of deeds");
        int killings = 0;
        int spared = 0;
        for (int seed = 0; seed < 400; seed++) {
            WolfsHead x = Scene.row(0);
            x.person(0, 0, 0, 0);
            x.person(0, 0, 0, 0);
            x.land(0);
            Scene.outlaw(x, 0);
            Scene.outlaw(x, 1);
            Scene.rule(x, "hungers 0;finds 0;price 1;");
            int first = seed * 2 + 149;
            int second = Scene.anew(first);
            boolean quiet = first % 7 == 0 || first % 7 == 1 || first % 7 == 5;
            if (!quiet || second % 7 != 4) {
                continue;
            }
            boolean meets = second % 2 != second / 5 % 2;
            boolean killed = second % 4 == 0 && meets;
            killings += killed ? 1 : 0;
            spared += meets && !killed ? 1 : 0;
            x.reigns(seed, 2);
            says.is("seed " + seed, x.befell(second % 2, 5), killed ? 1 : 0);
            says.is("seed " + seed + ": pardoned by it", x.of(1 - second % 2, 7), killed ? 2 : 1);
        }
        says.is("some were killed", killings > 0, true).is("some weren't, x mod 4 being another", spared > 0, true);
        WolfsHead y = Scene.village();
        Scene.outlaw(y, 0);
        Scene.outlaw(y, 3);
        Scene.rule(y, "hungers 0;finds 0;");
        // 153 is a month: two outlaws, two draws, ahead of the second x
        y.reigns(2, 1);
        says.is("a month's draws", y.is(1), Scene.anew(Scene.anew(Scene.anew(153))));
    }

    private static void reignsLast() {
        Says says = new Says(17, "6 a MONTH (if it can pass). .. It is one STEP: MONTH.");
        WolfsHead x = Scene.late(Scene.village());
        x.month(39);
        int steps = x.about(4);
        says.is("reigns(2, 1)", x.reigns(2, 1), 9999).is("MONTH", x.is(0), 9999).is("X", x.is(1), Scene.anew(153));
        says.is("steps", x.about(4), steps).is("undo()", x.undo(), 29).is("X", x.is(1), 149).is("MONTH", x.is(0), 9999);
        x.undo();
        says.is("the last one", x.reigns(2, 1), 9999).is("MONTH", x.is(0), 9999);
        WolfsHead y = Scene.village();
        says.is("a step even if nothing can be", y.reigns(0, 1), 0).is("about(4)", y.about(4), 1);
        says.is("X alone is anew", y.is(1), 26259).is("undo()", y.undo(), 0).alike("as it was", y, Scene.village());
        says.is("40 times", y.reigns(2, 40) > 0, true).is("one STEP", y.about(4), 1).is("undo()", y.undo(), 0);
        says.alike("as it was", y, Scene.village());
    }

    private static void undoNone() {
        Says says = new Says(18, "The latest STEP is taken back: how many can be yet. NONE: there is none.");
        WolfsHead x = new WolfsHead();
        says.is("a new one", x.undo(), -1);
        WolfsHead y = Scene.village();
        says.is("told alone", y.undo(), -1).is("persons", y.about(1), 5).is("lands", y.about(0), 3);
        y.month(2);
        says.is("one of two", y.undo(), 1).is("the last", y.undo(), 0).is("none", y.undo(), -1).is("none", y.undo(), -1);
        says.alike("as it was", y, Scene.village());
    }

    private static void undoThirty() {
        Says says = new Says(18, "the latest 30 can be taken back, the latest first");
        for (int many : new int[] {29, 30, 31, 32, 60}) {
            WolfsHead x = Scene.village();
            x.month(many);
            int kept = Math.min(many, 30);
            says.is(many + " steps", x.about(4), kept);
            for (int i = 1; i <= kept; i++) {
                says.is(many + " steps, back " + i, x.undo(), kept - i).is("MONTH", x.is(0), many - i);
                says.is("goods", x.of(4, 2), 10 * (many - i));
            }
            says.is("no more", x.undo(), -1).is("the elder stay", x.is(0), many - kept);
        }
    }

    /** More steps than are kept, with some taken back between: the row of them goes round. */
    private static void undoRound() {
        Says says = new Says(18, "the latest 30 can be taken back: round and round");
        WolfsHead x = new WolfsHead();
        int month = 0;
        int kept = 0;
        for (int i = 0; i < 40; i++) {
            x.month(7);
            month += 7;
            kept = Math.min(kept + 7, 30);
            for (int k = 0; k < 4; k++) {
                month--;
                kept--;
                says.is("turn " + i, x.undo(), kept).is("MONTH", x.is(0), month);
            }
        }
        for (int i = kept - 1; i >= 0; i--) {
            month--;
            says.is("at the end", x.undo(), i).is("MONTH", x.is(0), month);
        }
        says.is("no more", x.undo(), -1);
    }

    private static WolfsHead ready() {
        WolfsHead x = Scene.village();
        Scene.outlaw(x, 0);
        Scene.outlaw(x, 1);
        Scene.rule(x, "hungers 2;finds if who=2 then 10 else 0 end;");
        x.month(2);
        return x;
    }

    private static void undoEach() {
        Says says = new Says(18, "STEPS: CALLED, MOVED, FED, KILLED, PARDONED, a MONTH (each), REIGNS (see V): .. all of PERSONS "
            + "but FEAR, MONTH, X, BOOK are as ahead of it");
        WolfsHead due = ready();
        WolfsHead x = ready();
        int steps = x.about(4);
        x.call(2, 2);
        says.is("not heard", x.undo(), steps).alike("not heard", x, due);
        x = ready();
        x.call(2, 0);
        says.is("heard", x.undo(), steps).alike("heard", x, due);
        x = ready();
        x.move(0, 1);
        says.is("moved", x.undo(), steps).alike("moved", x, due);
        x = ready();
        x.feeds(0, 2);
        says.is("fed", x.undo(), steps).alike("fed", x, due);
        x = ready();
        x.feeds(0, 1);
        says.is("fed by an outlaw", x.undo(), steps).alike("fed by an outlaw", x, due);
        x = ready();
        x.kill(0, 1);
        says.is("killed by an outlaw", x.undo(), steps).alike("killed by an outlaw", x, due);
        x = ready();
        x.pardon(0, 3);
        says.is("pardoned", x.undo(), steps).alike("pardoned", x, due);
        x = ready();
        x.month(1);
        says.is("a month", x.undo(), steps).alike("a month", x, due);
        x = ready();
        x.reigns(1234, 40);
        says.is("reigns", x.undo(), steps).alike("reigns", x, due);
        x = ready();
        for (int i = 0; i < 5; i++) {
            x.call(3, 2);
        }
        says.is("the outlawing", x.undo(), steps + 4).is("goods again", x.of(3, 2), due.of(3, 2));
        says.is("debts again", x.of(3, 3), 5000).is("calls again", x.of(3, 4), 4).is("free again", x.of(3, 7), 0);
    }

    private static void undoRefused() {
        Says says = new Says(18, "STEPS: what can't be is none");
        WolfsHead x = ready();
        int steps = x.about(4);
        x.call(0, 0);
        x.move(0, 2);
        x.feeds(0, 0);
        x.kill(0, 3);
        x.pardon(0, 4);
        x.month(61);
        x.reigns(-1, 1);
        x.land(10);
        x.land(1);
        x.road(0, 3);
        x.person(0, 0, 0, 0);
        x.by(-1);
        x.by(0);
        x.crowd(0);
        x.borders(1);
        x.reports(2);
        x.has(false, 0, 0, 1);
        x.paid(0, 0);
        x.image();
        x.foretold(60, 0, false);
        says.is("about(4)", x.about(4), steps).is("undo()", x.undo(), steps - 1).is("the month", x.is(0), 1);
        says.is("hunger", x.of(0, 5), 2).is("X", x.is(1), Scene.anew(Scene.anew(149)));
    }

    private static void undoRefusedWhenFull() {
        Says says = new Says(18, "the latest 30 can be taken back: what can't be takes none of them away");
        for (int kind = 0; kind < 8; kind++) {
            WolfsHead x = Scene.late(Scene.village());
            x.month(39);
            for (int i = 0; i < 29; i++) {
                x.move(0, 1 - i % 2);
            }
            x.move(2, 1);
            says.is("refused, kind " + kind, refused(x, kind), true).is("steps", x.about(4), 30);
            for (int i = 29; i >= 0; i--) {
                says.is("undo()", x.undo(), i).is("its land " + i, x.of(0, 0), i % 2).is("2 again", x.of(2, 0), 0);
            }
            says.is("MONTH", x.is(0), 9999).is("none", x.undo(), -1);
        }
    }

    private static boolean refused(WolfsHead x, int kind) {
        switch (kind) {
            case 0:
                return x.call(5, 0) == -1;
            case 1:
                return !x.move(0, 2);
            case 2:
                return x.feeds(0, 1) == -1;
            case 3:
                return !x.kill(0, 1);
            case 4:
                return x.pardon(0, 1) == -1;
            case 5:
                return x.month(1) == -1;
            case 6:
                return x.reigns(0, 0) == -1;
            default:
                return Due.text(x, "month 1;") == 0 && x.played(0) == 0;
        }
    }

    private static void undoStays() {
        Says says = new Says(18, "LANDS, ROADS stay");
        WolfsHead x = Scene.village();
        x.month(1);
        x.land(7);
        x.road(2, 3);
        Scene.rule(x, "earns 3;");
        x.crowd(3);
        x.borders(8);
        x.reports(2);
        x.unlike(0, 1);
        x.paid(0, 5);
        x.has(true, 0, 0, 5);
        says.is("undo()", x.undo(), 0).is("lands", x.about(0), 4).is("forest", x.ofLand(3, 0), 7);
        says.is("roads", x.ofLand(3, 1), 4).is("THE TEXT", x.about(3), 0).is("texts", x.about(2), 1);
        says.is("calls", x.about(5), 1).is("border", x.toBorder(2), 1).is("unlike", x.about(7), 1);
        says.is("paid", x.about(8), 1).is("rests", x.rests(), 11).is("MONTH", x.is(0), 0);
    }

    private static void undoAsTold() {
        Says says = new Says(18, "PERSONS told since are as told");
        WolfsHead x = Scene.village();
        x.month(1);
        x.person(1, 8, 77, 66);
        Scene.outlaw(x, 5);
        x.move(5, 0);
        Scene.rule(x, "finds 0;hungers 4;");
        x.month(2);
        x.kill(5, 0);
        for (int i = 0; i < 9; i++) {
            x.undo();
        }
        int[] due = {1, 8, 77, 66, 0, 0, 0, 0};
        for (int what = 0; what < due.length; what++) {
            says.is("ahead of its own steps: of(5, " + what + ")", x.of(5, what), due[what]);
        }
        says.is("undo()", x.undo(), 0).is("MONTH", x.is(0), 0).is("persons", x.about(1), 6);
        for (int what = 0; what < due.length; what++) {
            says.is("ahead of its telling: of(5, " + what + ")", x.of(5, what), due[what]);
        }
        says.is("the book", x.book(-1, 0), 0).is("steps from here on", x.move(5, 0), true).is("undo()", x.undo(), 0);
        says.is("its land", x.of(5, 0), 1).is("no seventh", x.person(0, 0, 0, 0), -1);
        WolfsHead y = Scene.row(0, 0);
        y.month(2);
        for (int i = 0; i < 6; i++) {
            y.person(i % 2, i, i * 10, i);
        }
        y.month(1);
        y.undo();
        y.undo();
        y.undo();
        for (int i = 0; i < 6; i++) {
            says.is("all six: goods of " + i, y.of(i, 2), i * 10).is("all six: land of " + i, y.of(i, 0), i % 2);
            says.is("all six: fear of " + i, y.of(i, 1), i);
        }
    }
}
