import java.util.Random;

/** Long random runs, each answer held against the slow model's. */
public final class RandomRunsTest {
    private static final int RUNS = 3000;
    private static final String[] NAMES = {"month", "who", "fear", "land", "forest", "hunger", "out", "goods",
        "debts", "crowd"};
    private static final String[] LAWS = {"hungers", "finds", "price", "earns"};
    private static final String[] SIGNS = {"<", "<=", ">", ">=", "=", "#"};
    private static final String[] ODD = {"<", "=", "<=", "#", "+", "-", "*", "/", "(", ")", ";", "to", "in", "by",
        "end", "then", "else", "not", "ones", "fears", "if", "and", "or", "wolf", "Land", "10000", "0", "7", "61",
        "hungers", "land", "month", "goods", "crowd", "!", "\n", "", "00000000001", "99999999999999999999"};

    private final Random draw;
    private final WolfsHead x = new WolfsHead();
    private final Slow s = new Slow();
    private final int run;

    private RandomRunsTest(int run) {
        this.run = run;
        this.draw = new Random(run * 7919L + 17);
    }

    public static void main(String[] args) {
        int runs = args.length > 0 ? Integer.parseInt(args[0]) : RUNS;
        for (int i = 0; i < runs; i++) {
            new RandomRunsTest(i).go();
        }
        Due.done();
    }

    private int below(int n) {
        return draw.nextInt(n);
    }

    private boolean chance(int percent) {
        return below(100) < percent;
    }

    /** Mostly in range; now and then just beside it, or far off. */
    private int arg(int low, int high) {
        int kind = below(60);
        if (kind == 0) {
            return low - 1;
        }
        if (kind == 1) {
            return high + 1;
        }
        if (kind == 2) {
            int[] far = {Integer.MIN_VALUE, Integer.MAX_VALUE, -2, -3, 1 << 20, 31, 32, 64};
            return far[below(far.length)];
        }
        if (kind == 3) {
            return high;
        }
        return low + below(high - low + 1);
    }

    private int land() {
        return arg(0, Math.max(0, x.about(0) - 1));
    }

    private int person() {
        return arg(0, Math.max(0, x.about(1) - 1));
    }

    private void due(String call, long got, long want) {
        Due.is("run " + run + ": " + call, got, want);
    }

    private void due(String call, boolean got, boolean want) {
        Due.is("run " + run + ": " + call, got, want);
    }

    private void go() {
        if (chance(85)) {
            begin();
        }
        for (int i = 0; i < 300; i++) {
            int kind = below(100);
            if (kind < 8) {
                tell();
            } else if (kind < 12) {
                tellText();
            } else if (kind < 50) {
                step();
            } else if (kind < 75) {
                ask();
            } else if (kind < 95) {
                note();
            } else {
                keep();
            }
            if (chance(10)) {
                all();
            }
        }
        all();
    }

    private void begin() {
        int lands = 1 + below(8);
        for (int i = 0; i < lands; i++) {
            int forest = below(10);
            due("land", x.land(forest), s.land(forest));
        }
        int dense = below(100);
        for (int i = 0; i < lands; i++) {
            for (int j = 0; j < i; j++) {
                if (chance(dense)) {
                    due("road", x.road(i, j), s.road(i, j));
                }
            }
        }
        int persons = below(7);
        for (int i = 0; i < persons; i++) {
            tellPerson();
        }
        if (chance(60)) {
            tellText();
            int t = x.about(2) - 1;
            due("by", x.by(t), s.by(t));
        }
        for (int i = 0; i < persons; i++) {
            int l = land();
            for (int k = 0; k < 5 && chance(90); k++) {
                due("call", x.call(i, l), s.call(i, l));
            }
        }
    }

    private void tellPerson() {
        int l = land();
        int fear = arg(0, 9);
        int goods = chance(30) ? arg(0, 9999) : below(300);
        int debts = arg(0, 9999);
        due("person", x.person(l, fear, goods, debts), s.person(l, fear, goods, debts));
    }

    private void tell() {
        int kind = below(4);
        if (kind == 0) {
            int forest = arg(0, 9);
            due("land", x.land(forest), s.land(forest));
        } else if (kind == 1) {
            int a = land();
            int b = land();
            due("road", x.road(a, b), s.road(a, b));
        } else if (kind == 2) {
            tellPerson();
        } else {
            int t = arg(-1, Math.max(0, x.about(2) - 1));
            due("by", x.by(t), s.by(t));
        }
    }

    // ---- texts ----

    private String sum(int law, int deep) {
        StringBuilder b = new StringBuilder(product(law, deep));
        while (chance(25)) {
            b.append(chance(50) ? "+" : "-").append(product(law, deep));
        }
        return b.toString();
    }

    private String product(int law, int deep) {
        StringBuilder b = new StringBuilder(one(law, deep));
        while (chance(20)) {
            b.append(chance(50) ? "*" : "/").append(one(law, deep));
        }
        return b.toString();
    }

    private String one(int law, int deep) {
        int kind = below(deep > 0 ? 12 : 6);
        if (kind < 3) {
            return " " + (chance(3) ? below(20000) : chance(20) ? below(10000) : below(13));
        }
        if (kind < 6) {
            int[][] fit = {{0, 1, 2, 3, 4, 5, 6}, {0, 1, 2, 3, 4, 5, 6, 9}, {0, 1, 2, 3, 4, 5, 6, 7, 8},
                {0, 1, 2, 3, 4, 7, 8, 9}};
            int[] those = fit[law];
            return " " + NAMES[chance(1) ? below(10) : those[below(those.length)]] + " ";
        }
        if (kind < 7) {
            return "(" + sum(law, deep - 1) + ")";
        }
        if (kind < 8) {
            return "-" + one(law, deep - 1);
        }
        if (kind < 9) {
            return " ones" + space() + one(law, deep - 1);
        }
        if (kind < 10) {
            return " fears" + space() + one(law, deep - 1);
        }
        return " if " + either(law, deep - 1) + " then " + sum(law, deep - 1) + " else " + sum(law, deep - 1)
            + " end ";
    }

    private String space() {
        return chance(80) ? " " : "\n ";
    }

    private String either(int law, int deep) {
        StringBuilder b = new StringBuilder();
        do {
            b.append(b.length() == 0 ? "" : chance(50) ? " or " : " and ");
            b.append(chance(20) ? "not " : "");
            b.append(sum(law, deep)).append(SIGNS[below(6)]).append(sum(law, deep));
        } while (chance(30));
        return b.toString();
    }

    private String clause() {
        int kind = below(13);
        if (kind < 4) {
            return LAWS[kind] + " " + sum(kind, below(6)) + ";";
        }
        switch (kind) {
            case 4:
                return "land " + below(chance(3) ? 12 : 10) + ";";
            case 5:
                return "road " + below(8) + " to " + below(8) + ";";
            case 6:
                return "person " + below(8) + " fear " + below(10) + " goods " + below(500) + " debts " + below(500)
                    + ";";
            case 7:
                return "call " + below(6) + " in " + below(8) + ";";
            case 8:
                return "move " + below(6) + " to " + below(8) + ";";
            case 9:
                return "feed " + below(6) + " by " + below(6) + ";";
            case 10:
                return "kill " + below(6) + " by " + below(6) + ";";
            case 11:
                return "pardon " + below(6) + " by " + below(6) + ";";
            default:
                return "month " + (chance(90) ? 1 + below(3) : below(62)) + ";";
        }
    }

    private String text() {
        StringBuilder b = new StringBuilder();
        if (chance(4)) {
            String deep = new String[] {"(", "- ", "ones ", "fears ", "if not "}[below(5)];
            b.append("finds ");
            for (int i = 0; i < 10; i++) {
                b.append(chance(70) ? deep : "(");
            }
            return b.append("1;").toString();
        }
        int n = chance(5) ? 26 : below(6);
        boolean[] had = new boolean[4];
        for (int i = 0; i < n; i++) {
            String c = n == 26 ? "land 1;" : clause();
            boolean twice = false;
            for (int l = 0; l < 4; l++) {
                if (c.startsWith(LAWS[l] + " ")) {
                    twice = had[l];
                    had[l] = true;
                }
            }
            b.append(twice && chance(95) ? "" : c);
        }
        while (chance(15)) {
            int at = below(b.length() + 1);
            if (chance(50)) {
                b.insert(at, ODD[below(ODD.length)] + (chance(50) ? " " : ""));
            } else if (b.length() > 0) {
                at = below(b.length());
                b.delete(at, Math.min(b.length(), at + 1 + below(4)));
            }
        }
        return b.length() > 300 ? b.substring(0, 300) : b.toString();
    }

    private void tellText() {
        String t = text();
        if (chance(95)) {
            due("end", x.end(0), s.end(0));
        }
        for (int at = 0; at < t.length(); at += 20) {
            int[] w = new int[5];
            for (int i = 0; i < 20; i++) {
                int sign = at + i < t.length() ? t.charAt(at + i) : below(256);
                w[i / 4] |= sign << 24 - 8 * (i % 4);
            }
            due("feed", x.feed(w[0], w[1], w[2], w[3], w[4]), s.feed(w));
        }
        int n = chance(97) ? t.length() : arg(0, 300);
        due("end", x.end(n), s.end(n));
        due("about(9)", x.about(9), s.about(9));
        due("text of [" + t + "]", x.text(), s.text());
        due("fault(0) of [" + t + "]", x.fault(0), s.fault(0));
        due("fault(1) of [" + t + "]", x.fault(1), s.fault(1));
        due("about(9)", x.about(9), s.about(9));
    }

    // ---- steps ----

    private void step() {
        int p = person();
        int b = person();
        int l = land();
        switch (below(11)) {
            case 0:
            case 1:
                due("call " + p + " " + l, x.call(p, l), s.call(p, l));
                break;
            case 2:
                due("move " + p + " " + l, x.move(p, l), s.move(p, l));
                break;
            case 3:
            case 4:
                due("feeds " + p + " " + b, x.feeds(p, b), s.feeds(p, b));
                break;
            case 5:
                if (chance(20)) {
                    due("kill " + p + " " + b, x.kill(p, b), s.kill(p, b));
                }
                break;
            case 6:
                due("pardon " + p + " " + b, x.pardon(p, b), s.pardon(p, b));
                break;
            case 7:
                int n = chance(90) ? 1 + below(3) : arg(1, 60);
                due("month " + n, x.month(n), s.month(n));
                break;
            case 8:
                int t = arg(0, Math.max(0, x.about(2) - 1));
                due("played " + t, x.played(t), s.played(t));
                break;
            case 9:
                int seed = arg(0, 9999);
                int times = chance(50) ? 1 + below(3) : arg(1, 40);
                due("reigns " + seed + " " + times, x.reigns(seed, times), s.reigns(seed, times));
                break;
            default:
                due("undo", x.undo(), s.undo());
                break;
        }
    }

    private void ask() {
        int p = person();
        int b = person();
        int l = land();
        int m = land();
        int n = arg(1, 6);
        switch (below(7)) {
            case 0:
                int far = arg(1, 60);
                due("foretold " + far + " " + p, x.foretold(far, p, false), s.foretold(far, p, false));
                due("foretold " + far + " " + p + " goods", x.foretold(far, p, true), s.foretold(far, p, true));
                break;
            case 1:
                due("toPay " + p + " " + b, x.toPay(p, b), s.toPay(p, b));
                break;
            case 2:
                int short1 = n > 4 && chance(80) ? 4 : n;
                int i = arg(-2, 5);
                due("surest " + p + " " + short1 + " " + i, x.surest(p, short1, i), s.surest(p, short1, i));
                break;
            case 3:
                int roads = arg(0, 9);
                due("unheard", x.unheard(l, roads), s.unheard(l, roads));
                due("steps", x.steps(l, m), s.steps(l, m));
                break;
            case 4:
                due("helpers", x.helpers(), s.helpers());
                due("watch", x.watch(l, m), s.watch(l, m));
                break;
            case 5:
                due("toBorder", x.toBorder(l), s.toBorder(l));
                break;
            default:
                int k = arg(0, 5);
                for (int what = -1; what < 4; what++) {
                    due("inCrowd " + l + " " + k + " " + what, x.inCrowd(l, k, what), s.inCrowd(l, k, what));
                }
                break;
        }
    }

    private void note() {
        switch (below(10)) {
            case 0:
            case 1:
                int l = chance(10) ? -1 : land();
                due("crowd " + l, x.crowd(l), s.crowd(l));
                break;
            case 2:
                int set = arg(0, 255);
                due("borders", x.borders(set), s.borders(set));
                break;
            case 3:
                int n = arg(0, 8);
                if (chance(30)) {
                    due("reports", x.reports(n), s.reports(n));
                }
                break;
            case 4:
            case 5:
                int a = arg(0, 7);
                int b = arg(0, 7);
                due("unlike", x.unlike(a, b), s.unlike(a, b));
                break;
            case 6:
                int i = arg(-1, 7);
                due("heads " + i, x.heads(i), s.heads(i));
                break;
            case 7:
                boolean second = chance(50);
                int f = arg(0, 1);
                int o = arg(0, 1);
                int gain = chance(50) ? below(4) : arg(0, 99);
                due("has", x.has(second, f, o, gain), s.has(second, f, o, gain));
                due("rests", x.rests(), s.rests());
                due("mixed", x.mixed(false), s.mixed(false));
                due("mixed low", x.mixed(true), s.mixed(true));
                break;
            case 8:
                int p = chance(10) ? -1 : person();
                int price = chance(70) ? Math.max(0, x.of(p, 10)) : arg(0, 9999);
                due("paid", x.paid(p, price), s.paid(p, price));
                break;
            default:
                due("whose", x.whose(), s.whose());
                break;
        }
    }

    private void keep() {
        if (chance(50)) {
            due("image", x.image(), s.image());
        } else {
            due("back", x.back(), s.back());
        }
    }

    private void all() {
        for (int p = -2; p < 7; p++) {
            for (int what = -1; what < 14; what++) {
                due("of " + p + " " + what, x.of(p, what), s.of(p, what));
            }
            for (int what = -1; what < 8; what++) {
                due("befell " + p + " " + what, x.befell(p, what), s.befell(p, what));
            }
            due("heirs " + p, x.heirs(p), s.heirs(p));
        }
        for (int l = -2; l < 9; l++) {
            for (int what = -1; what < 4; what++) {
                due("ofLand " + l + " " + what, x.ofLand(l, what), s.ofLand(l, what));
            }
        }
        for (int i = -2; i < 32; i++) {
            for (int what = -1; what < 4; what++) {
                due("book " + i + " " + what, x.book(i, what), s.book(i, what));
            }
        }
        for (int what = -2; what < 12; what++) {
            due("about " + what, x.about(what), s.about(what));
            due("is " + what, x.is(what), s.is(what));
            due("fault " + what, x.fault(what), s.fault(what));
        }
        due("feared", x.feared(), s.feared());
        due("wolves", x.wolves(), s.wolves());
        due("whose", x.whose(), s.whose());
    }
}
