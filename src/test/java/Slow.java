import java.util.ArrayDeque;
import java.util.ArrayList;
import java.util.Deque;
import java.util.List;
import java.util.function.Predicate;
import java.util.function.ToIntFunction;

/** The document once more, written for plainness alone, to hold the class against. */
final class Slow {
    static final class Person implements Cloneable {
        int land, fear, goods, debts, calls, hunger, out, how, toldLand, toldGoods, toldDebts;

        Person copy() {
            try {
                return (Person) clone();
            } catch (CloneNotSupportedException e) {
                throw new IllegalStateException(e);
            }
        }
    }

    /** What a law is asked of. */
    record Asked(int month, int who, int fear, int land, int forest, int hunger, int out, int goods, int debts,
        int crowd, List<Person> all) {
    }

    static final class Script {
        List<String[]> clauses = new ArrayList<>();
        java.util.Map<String, ToIntFunction<Asked>> laws = new java.util.HashMap<>();
    }

    record Snap(List<Person> persons, int month, int x, List<int[]> book) {
    }

    List<Integer> forests = new ArrayList<>();
    boolean[][] roads = new boolean[8][8];
    List<Person> persons = new ArrayList<>();
    int month = 0;
    int x = 149;
    List<int[]> book = new ArrayList<>();
    List<Script> texts = new ArrayList<>();
    int ruling = -1;
    Deque<Snap> taken = new ArrayDeque<>();
    List<Integer> crowdCalls = new ArrayList<>();
    int borderSet = 0;
    int reportCount = 0;
    List<int[]> unlikePairs = new ArrayList<>();
    int[][][] gains = new int[2][2][2];
    List<int[]> paidList = new ArrayList<>();
    StringBuilder tape = new StringBuilder();
    int faultWhat = -1;
    int faultPlace = -1;
    Slow kept = null;

    Slow() {
        kept = fresh();
    }

    private Slow(boolean bare) {
    }

    private static Slow fresh() {
        return new Slow(true);
    }

    private void become(Slow o) {
        forests = new ArrayList<>(o.forests);
        roads = new boolean[8][];
        for (int i = 0; i < 8; i++) {
            roads[i] = o.roads[i].clone();
        }
        persons = copyPersons(o.persons);
        month = o.month;
        x = o.x;
        book = new ArrayList<>(o.book);
        texts = new ArrayList<>(o.texts);
        ruling = o.ruling;
        taken = new ArrayDeque<>(o.taken);
        crowdCalls = new ArrayList<>(o.crowdCalls);
        borderSet = o.borderSet;
        reportCount = o.reportCount;
        unlikePairs = new ArrayList<>(o.unlikePairs);
        gains = new int[2][2][2];
        for (int a = 0; a < 2; a++) {
            for (int b = 0; b < 2; b++) {
                gains[a][b] = o.gains[a][b].clone();
            }
        }
        paidList = new ArrayList<>(o.paidList);
    }

    private static List<Person> copyPersons(List<Person> from) {
        List<Person> to = new ArrayList<>();
        for (Person p : from) {
            to.add(p.copy());
        }
        return to;
    }

    private boolean isLand(int l) {
        return l >= 0 && l < forests.size();
    }

    private boolean isPerson(int p) {
        return p >= 0 && p < persons.size();
    }

    private boolean linked(int a, int b) {
        return isLand(a) && isLand(b) && (a == b || roads[a][b]);
    }

    int land(int forest) {
        if (forest < 0 || forest > 9 || forests.size() == 8) {
            return -1;
        }
        forests.add(forest);
        return forests.size() - 1;
    }

    boolean road(int a, int b) {
        if (!isLand(a) || !isLand(b) || a == b || roads[a][b]) {
            return false;
        }
        roads[a][b] = true;
        roads[b][a] = true;
        return true;
    }

    int person(int land, int fear, int goods, int debts) {
        if (!isLand(land) || fear < 0 || fear > 9 || goods < 0 || goods > 9999 || debts < 0 || debts > 9999
            || persons.size() == 6) {
            return -1;
        }
        Person p = new Person();
        p.land = land;
        p.toldLand = land;
        p.fear = fear;
        p.goods = goods;
        p.toldGoods = goods;
        p.debts = debts;
        p.toldDebts = debts;
        persons.add(p);
        return persons.size() - 1;
    }

    int feed(int... words) {
        if (tape.length() + 20 > 300) {
            return -1;
        }
        for (int w : words) {
            for (int s = 24; s >= 0; s -= 8) {
                tape.append((char) (w >>> s & 255));
            }
        }
        return tape.length();
    }

    int end(int n) {
        if (n < 0 || n > tape.length()) {
            return -1;
        }
        tape.setLength(n);
        return n;
    }

    int text() {
        if (texts.size() == 4) {
            return -1;
        }
        String s = tape.toString();
        tape.setLength(0);
        try {
            texts.add(new Parser(s).all());
            faultWhat = 0;
            faultPlace = -1;
            return texts.size() - 1;
        } catch (Fault f) {
            faultWhat = f.what;
            faultPlace = f.place;
            return -1;
        }
    }

    int fault(int what) {
        return what == 0 ? faultWhat : what == 1 ? faultPlace : -1;
    }

    boolean by(int t) {
        if (t < -1 || t >= texts.size()) {
            return false;
        }
        ruling = t;
        return true;
    }

    // ---- the language ----

    static final class Fault extends RuntimeException {
        final int what;
        final int place;

        Fault(int what, int place) {
            this.what = what;
            this.place = place;
        }
    }

    static final class Parser {
        final String s;
        int pos = 0;
        String tok;
        int place;
        String law;
        int open = 0;

        Parser(String s) {
            this.s = s;
            step();
        }

        /** "" is the end; "?" is no token. */
        void step() {
            while (pos < s.length() && (s.charAt(pos) == ' ' || s.charAt(pos) == '\n')) {
                pos++;
            }
            place = pos;
            if (pos == s.length()) {
                tok = "";
                return;
            }
            java.util.regex.Matcher m = java.util.regex.Pattern
                .compile("[a-zA-Z]+|[0-9]+|<=|>=|[<>=#+*/();-]").matcher(s).region(pos, s.length());
            if (m.lookingAt()) {
                tok = m.group();
                pos = m.end();
            } else {
                tok = "?";
                pos++;
            }
        }

        Fault wrong(int what) {
            return new Fault(what, place);
        }

        boolean at(String t) {
            return tok.equals(t);
        }

        void need(String t) {
            if (!at(t)) {
                throw wrong(1);
            }
            step();
        }

        boolean isNumber() {
            return !tok.isEmpty() && Character.isDigit(tok.charAt(0));
        }

        String number(int low, int high) {
            if (!isNumber()) {
                throw wrong(1);
            }
            java.math.BigInteger v = new java.math.BigInteger(tok);
            if (v.bitLength() > 20 || v.intValue() < low || v.intValue() > high) {
                throw wrong(2);
            }
            step();
            return v.toString();
        }

        static final List<String> FIRST = List.of("hungers", "finds", "price", "earns", "land", "road", "person",
            "call", "move", "feed", "kill", "pardon", "month");

        Script all() {
            Script out = new Script();
            while (!tok.isEmpty()) {
                if (!FIRST.contains(tok)) {
                    throw wrong(1);
                }
                if (out.laws.containsKey(tok)) {
                    throw wrong(4);
                }
                if (out.clauses.size() == 24) {
                    throw wrong(6);
                }
                String w = tok;
                step();
                List<String> row = new ArrayList<>();
                row.add(w);
                switch (w) {
                    case "hungers", "finds", "price", "earns" -> {
                        law = w;
                        out.laws.put(w, sum());
                    }
                    case "land" -> row.add(number(0, 9));
                    case "month" -> row.add(number(1, 60));
                    case "road" -> two(row, 7, "to", 7);
                    case "call" -> two(row, 5, "in", 7);
                    case "move" -> two(row, 5, "to", 7);
                    case "person" -> {
                        two(row, 7, "fear", 9);
                        need("goods");
                        row.add(number(0, 9999));
                        need("debts");
                        row.add(number(0, 9999));
                    }
                    default -> two(row, 5, "by", 5);
                }
                need(";");
                out.clauses.add(row.toArray(new String[0]));
            }
            return out;
        }

        void two(List<String> row, int high, String word, int otherHigh) {
            row.add(number(0, high));
            need(word);
            row.add(number(0, otherHigh));
        }

        static int cut(long v) {
            return (int) (v > 1000000 ? 1000000 : v < -1000000 ? -1000000 : v);
        }

        ToIntFunction<Asked> sum() {
            ToIntFunction<Asked> left = product();
            while (at("+") || at("-")) {
                int sign = at("+") ? 1 : -1;
                step();
                ToIntFunction<Asked> a = left;
                ToIntFunction<Asked> b = product();
                left = q -> cut((long) a.applyAsInt(q) + sign * (long) b.applyAsInt(q));
            }
            return left;
        }

        ToIntFunction<Asked> product() {
            ToIntFunction<Asked> left = one();
            while (at("*") || at("/")) {
                boolean times = at("*");
                step();
                ToIntFunction<Asked> a = left;
                ToIntFunction<Asked> b = one();
                left = q -> {
                    long u = a.applyAsInt(q);
                    long v = b.applyAsInt(q);
                    return cut(times ? u * v : v == 0 ? 0 : u / v);
                };
            }
            return left;
        }

        void open() {
            if (open == 8) {
                throw wrong(3);
            }
            open++;
            step();
        }

        ToIntFunction<Asked> one() {
            if (isNumber()) {
                int v = Integer.parseInt(number(0, 9999));
                return q -> v;
            }
            switch (tok) {
                case "(" -> {
                    open();
                    ToIntFunction<Asked> in = sum();
                    need(")");
                    open--;
                    return in;
                }
                case "-", "ones", "fears" -> {
                    String w = tok;
                    open();
                    ToIntFunction<Asked> in = one();
                    open--;
                    return q -> {
                        int v = in.applyAsInt(q);
                        if (w.equals("-")) {
                            return -v;
                        }
                        if (w.equals("ones")) {
                            return (int) Integer.toBinaryString(Math.abs(v)).chars().filter(c -> c == '1').count();
                        }
                        return v >= 0 && v < q.all().size() ? q.all().get(v).fear : 0;
                    };
                }
                case "if" -> {
                    open();
                    Predicate<Asked> c = either();
                    need("then");
                    ToIntFunction<Asked> a = sum();
                    need("else");
                    ToIntFunction<Asked> b = sum();
                    need("end");
                    open--;
                    return q -> c.test(q) ? a.applyAsInt(q) : b.applyAsInt(q);
                }
                default -> {
                    return name();
                }
            }
        }

        ToIntFunction<Asked> name() {
            ToIntFunction<Asked> f;
            List<String> where;
            switch (tok) {
                case "month" -> {
                    f = Asked::month;
                    where = FIRST;
                }
                case "who" -> {
                    f = Asked::who;
                    where = FIRST;
                }
                case "fear" -> {
                    f = Asked::fear;
                    where = FIRST;
                }
                case "land" -> {
                    f = Asked::land;
                    where = FIRST;
                }
                case "forest" -> {
                    f = Asked::forest;
                    where = FIRST;
                }
                case "hunger" -> {
                    f = Asked::hunger;
                    where = List.of("hungers", "finds", "price");
                }
                case "out" -> {
                    f = Asked::out;
                    where = List.of("hungers", "finds", "price");
                }
                case "goods" -> {
                    f = Asked::goods;
                    where = List.of("price", "earns");
                }
                case "debts" -> {
                    f = Asked::debts;
                    where = List.of("price", "earns");
                }
                case "crowd" -> {
                    f = Asked::crowd;
                    where = List.of("finds", "earns");
                }
                default -> throw wrong(1);
            }
            if (!where.contains(law)) {
                throw wrong(5);
            }
            step();
            return f;
        }

        Predicate<Asked> either() {
            Predicate<Asked> left = both();
            while (at("or")) {
                step();
                left = left.or(both());
            }
            return left;
        }

        Predicate<Asked> both() {
            Predicate<Asked> left = ask();
            while (at("and")) {
                step();
                left = left.and(ask());
            }
            return left;
        }

        Predicate<Asked> ask() {
            if (at("not")) {
                open();
                Predicate<Asked> in = ask();
                open--;
                return in.negate();
            }
            ToIntFunction<Asked> a = sum();
            String w = tok;
            if (!List.of("<", "<=", ">", ">=", "=", "#").contains(w)) {
                throw wrong(1);
            }
            step();
            ToIntFunction<Asked> b = sum();
            return q -> {
                int u = a.applyAsInt(q);
                int v = b.applyAsInt(q);
                return switch (w) {
                    case "<" -> u < v;
                    case "<=" -> u <= v;
                    case ">" -> u > v;
                    case ">=" -> u >= v;
                    case "=" -> u == v;
                    default -> u != v;
                };
            };
        }
    }

    // ---- laws ----

    private int crowdAt(int land, int but) {
        int n = 0;
        for (int i = 0; i < persons.size(); i++) {
            if (i != but && persons.get(i).land == land && persons.get(i).how != 3) {
                n++;
            }
        }
        return n;
    }

    private int law(String which, int t, int p, int land) {
        Person w = persons.get(p);
        int forest = forests.get(land);
        Asked q = new Asked(month, p, w.fear, land, forest, w.hunger, w.out, w.goods, w.debts, crowdAt(land, p),
            persons);
        ToIntFunction<Asked> f = t < 0 ? null : texts.get(t).laws.get(which);
        int v;
        int most;
        switch (which) {
            case "hungers" -> {
                v = f == null ? 1 : f.applyAsInt(q);
                most = 9;
            }
            case "finds" -> {
                v = f == null ? 5 - forest / 2 : f.applyAsInt(q);
                most = 10;
            }
            case "price" -> {
                v = f == null ? 100 + 20 * w.out : f.applyAsInt(q);
                most = 9999;
            }
            default -> {
                v = f == null ? 10 : f.applyAsInt(q);
                most = 99;
            }
        }
        return v < 0 ? 0 : v > most ? most : v;
    }

    private int lawNow(String which, int p) {
        return law(which, ruling, p, persons.get(p).land);
    }

    // ---- steps ----

    private Snap snap() {
        return new Snap(copyPersons(persons), month, x, new ArrayList<>(book));
    }

    private void push(Snap s) {
        taken.addLast(s);
        if (taken.size() > 30) {
            taken.removeFirst();
        }
    }

    private int draw() {
        int d = x % 10;
        x = (x * 379 + 257) % 30469;
        return d;
    }

    private void write(int p, int what) {
        book.add(new int[] {month, p, what});
        if (book.size() > 30) {
            book.remove(0);
        }
    }

    private int doCall(int p, int land) {
        if (!isPerson(p) || !isLand(land) || persons.get(p).how % 2 == 1) {
            return -1;
        }
        Person w = persons.get(p);
        if (w.land == land) {
            w.calls = 0;
            write(p, 0);
        } else if (++w.calls == 5) {
            w.how = 1;
            w.out = w.hunger = w.calls = w.goods = w.debts = 0;
            write(p, 1);
        }
        return w.calls;
    }

    private boolean doMove(int p, int land) {
        if (!isPerson(p) || !isLand(land) || persons.get(p).how == 3 || !roads[persons.get(p).land][land]) {
            return false;
        }
        persons.get(p).land = land;
        return true;
    }

    private boolean near(int p, int b) {
        return isPerson(p) && isPerson(b) && p != b && persons.get(p).how == 1 && persons.get(b).how != 3
            && persons.get(p).land == persons.get(b).land;
    }

    private int doFeed(int p, int b) {
        if (!near(p, b)) {
            return -1;
        }
        persons.get(p).hunger = 0;
        Person w = persons.get(b);
        if (w.how != 1 && draw() < lawNow("finds", p) && w.calls < 4) {
            w.calls++;
        }
        write(p, 2);
        return w.calls;
    }

    private boolean doKill(int p, int b) {
        if (!near(p, b)) {
            return false;
        }
        persons.get(p).how = 3;
        if (persons.get(b).how == 1) {
            persons.get(b).how = 2;
            persons.get(b).out = 0;
            persons.get(b).hunger = 0;
        }
        write(p, 5);
        return true;
    }

    private int doPardon(int p, int b) {
        if (!isPerson(p) || !isPerson(b) || persons.get(p).how != 1 || persons.get(b).how == 3) {
            return -1;
        }
        int price = lawNow("price", p);
        if (persons.get(b).goods < price) {
            return -1;
        }
        persons.get(b).goods -= price;
        persons.get(p).how = 2;
        persons.get(p).out = 0;
        persons.get(p).hunger = 0;
        write(p, 6);
        return price;
    }

    private int doMonth() {
        if (month == 9999) {
            return -1;
        }
        int died = 0;
        for (int p = 0; p < persons.size(); p++) {
            Person w = persons.get(p);
            if (w.how == 0 || w.how == 2) {
                w.goods = Math.min(9999, w.goods + lawNow("earns", p));
            } else if (w.how == 1) {
                w.hunger = Math.min(9, w.hunger + lawNow("hungers", p));
                int fate = w.hunger == 9 ? 3 : draw() < lawNow("finds", p) ? 4 : 0;
                if (fate == 0) {
                    w.out++;
                } else {
                    w.how = 3;
                    write(p, fate);
                    died++;
                }
            }
        }
        month++;
        return died;
    }

    int call(int p, int land) {
        Snap s = snap();
        int r = doCall(p, land);
        if (r >= 0) {
            push(s);
        }
        return r;
    }

    boolean move(int p, int land) {
        Snap s = snap();
        boolean r = doMove(p, land);
        if (r) {
            push(s);
        }
        return r;
    }

    int feeds(int p, int b) {
        Snap s = snap();
        int r = doFeed(p, b);
        if (r >= 0) {
            push(s);
        }
        return r;
    }

    boolean kill(int p, int b) {
        Snap s = snap();
        boolean r = doKill(p, b);
        if (r) {
            push(s);
        }
        return r;
    }

    int pardon(int p, int b) {
        Snap s = snap();
        int r = doPardon(p, b);
        if (r >= 0) {
            push(s);
        }
        return r;
    }

    int month(int n) {
        if (n < 1 || n > 60 || month + n > 9999) {
            return -1;
        }
        int died = 0;
        for (int i = 0; i < n; i++) {
            push(snap());
            died += doMonth();
        }
        return died;
    }

    int played(int t) {
        if (t < 0 || t >= texts.size()) {
            return -2;
        }
        List<String[]> rows = texts.get(t).clauses;
        for (int i = 0; i < rows.size(); i++) {
            String[] r = rows.get(i);
            int[] n = new int[5];
            for (int k = 1; k < r.length; k++) {
                n[k] = Integer.parseInt(r[k]);
            }
            boolean ok = switch (r[0]) {
                case "land" -> land(n[1]) >= 0;
                case "road" -> road(n[1], n[2]);
                case "person" -> person(n[1], n[2], n[3], n[4]) >= 0;
                case "call" -> call(n[1], n[2]) >= 0;
                case "move" -> move(n[1], n[2]);
                case "feed" -> feeds(n[1], n[2]) >= 0;
                case "kill" -> kill(n[1], n[2]);
                case "pardon" -> pardon(n[1], n[2]) >= 0;
                case "month" -> {
                    int can = Math.min(n[1], 9999 - month);
                    for (int k = 0; k < can; k++) {
                        month(1);
                    }
                    yield can == n[1];
                }
                default -> true;
            };
            if (!ok) {
                return i;
            }
        }
        return -1;
    }

    int reigns(int seed, int n) {
        if (seed < 0 || seed > 9999 || n < 1 || n > 40 || persons.isEmpty()) {
            return -1;
        }
        push(snap());
        x = seed * 2 + 149;
        for (int i = 0; i < n; i++) {
            int v = x;
            x = (x * 379 + 257) % 30469;
            int p = v % persons.size();
            int l = v / 7 % forests.size();
            int b = v / 5 % persons.size();
            int kind = v % 7;
            if (kind < 2) {
                doCall(p, l);
            } else if (kind == 2) {
                doMove(p, l);
            } else if (kind == 3) {
                doFeed(p, b);
            } else if (kind == 4 && v % 4 == 0) {
                doKill(p, b);
            } else if (kind == 5) {
                doPardon(p, b);
            } else if (kind == 6) {
                doMonth();
            }
        }
        return month;
    }

    int undo() {
        if (taken.isEmpty()) {
            return -1;
        }
        Snap s = taken.removeLast();
        List<Person> now = persons;
        persons = copyPersons(s.persons());
        for (int p = persons.size(); p < now.size(); p++) {
            Person w = new Person();
            w.fear = now.get(p).fear;
            w.land = w.toldLand = now.get(p).toldLand;
            w.goods = w.toldGoods = now.get(p).toldGoods;
            w.debts = w.toldDebts = now.get(p).toldDebts;
            persons.add(w);
        }
        month = s.month();
        x = s.x();
        book = new ArrayList<>(s.book());
        return taken.size();
    }

    // ---- how things are ----

    int of(int p, int what) {
        if (!isPerson(p) || what < 0 || what > 12) {
            return -1;
        }
        Person w = persons.get(p);
        return switch (what) {
            case 0 -> w.land;
            case 1 -> w.fear;
            case 2 -> w.goods;
            case 3 -> w.debts;
            case 4 -> w.calls;
            case 5 -> w.hunger;
            case 6 -> w.out;
            case 7 -> w.how;
            case 8 -> lawNow("hungers", p);
            case 9 -> lawNow("finds", p);
            case 10 -> lawNow("price", p);
            case 11 -> lawNow("earns", p);
            default -> crowdAt(w.land, p);
        };
    }

    int ofLand(int land, int what) {
        if (!isLand(land) || what < 0 || what > 2) {
            return -1;
        }
        if (what == 0) {
            return forests.get(land);
        }
        int bits = 0;
        if (what == 1) {
            for (int i = 0; i < 8; i++) {
                bits += roads[land][i] ? 1 << i : 0;
            }
            return bits;
        }
        for (int i = 0; i < persons.size(); i++) {
            bits += persons.get(i).land == land && persons.get(i).how != 3 ? 1 << i : 0;
        }
        return bits;
    }

    int is(int what) {
        return what == 0 ? month : what == 1 ? x : -2;
    }

    int book(int i, int what) {
        if (i == -1) {
            return book.size();
        }
        return i < 0 || i >= book.size() || what < 0 || what > 2 ? -2 : book.get(i)[what];
    }

    int foretold(int n, int p, boolean goods) {
        if (n < 1 || n > 60 || !isPerson(p)) {
            return -1;
        }
        Snap s = snap();
        for (int i = 0; i < n; i++) {
            doMonth();
        }
        int r = goods ? persons.get(p).goods : persons.get(p).how;
        restore(s);
        return r;
    }

    private void restore(Snap s) {
        persons = copyPersons(s.persons());
        month = s.month();
        x = s.x();
        book = new ArrayList<>(s.book());
    }

    int toPay(int p, int b) {
        if (!isPerson(p) || !isPerson(b)) {
            return -1;
        }
        Snap s = snap();
        int r = -1;
        for (int n = 0; n <= 60 && r < 0 && month <= 9999; n++) {
            Snap then = snap();
            if (doPardon(p, b) >= 0) {
                r = n;
            }
            restore(then);
            if (doMonth() < 0) {
                break;
            }
        }
        restore(s);
        return r;
    }

    int surest(int p, int n, int i) {
        if (!isPerson(p) || persons.get(p).how != 1 || n < 1 || n > 6 || i < -2 || i >= n) {
            return -3;
        }
        best = -1;
        walk(p, n, persons.get(p).land, 1, new ArrayList<>());
        long down = 1;
        for (int k = 0; k < n; k++) {
            down *= 10;
        }
        long g = java.math.BigInteger.valueOf(best).gcd(java.math.BigInteger.valueOf(down)).longValue();
        return i == -2 ? (int) (best / g) : i == -1 ? (int) (down / g) : bestWay.get(i);
    }

    private long best;
    private List<Integer> bestWay;

    private void walk(int p, int n, int at, long odds, List<Integer> way) {
        if (way.size() == n) {
            if (odds > best) {
                best = odds;
                bestWay = new ArrayList<>(way);
            }
            return;
        }
        for (int to = 0; to < forests.size(); to++) {
            if (linked(at, to)) {
                way.add(to);
                walk(p, n, to, odds * (10 - law("finds", ruling, p, to)), way);
                way.remove(way.size() - 1);
            }
        }
    }

    int steps(int a, int b) {
        if (!isLand(a) || !isLand(b)) {
            return -1;
        }
        int[][] d = distances();
        return d[a][b] > 99 ? -1 : d[a][b];
    }

    private int[][] distances() {
        int n = forests.size();
        int[][] d = new int[n][n];
        for (int i = 0; i < n; i++) {
            for (int j = 0; j < n; j++) {
                d[i][j] = i == j ? 0 : roads[i][j] ? 1 : 100;
            }
        }
        for (int k = 0; k < n; k++) {
            for (int i = 0; i < n; i++) {
                for (int j = 0; j < n; j++) {
                    d[i][j] = Math.min(d[i][j], d[i][k] + d[k][j]);
                }
            }
        }
        return d;
    }

    int unheard(int land, int n) {
        if (!isLand(land) || n < 0 || n > 9) {
            return -1;
        }
        int bits = 0;
        for (int i = 0; i < forests.size(); i++) {
            bits += distances()[land][i] > n ? 1 << i : 0;
        }
        return bits;
    }

    int crowd(int land) {
        if (land == -1) {
            crowdCalls.clear();
            return 0;
        }
        if (!isLand(land) || crowdCalls.size() == 5) {
            return -2;
        }
        crowdCalls.add(land);
        return crowdCalls.size();
    }

    private int waysGone;
    private int may;
    private int must;

    int inCrowd(int s, int k, int what) {
        if (!isLand(s) || k < 0 || k > 5 || what < 0 || what > 2 || crowdCalls.isEmpty()) {
            return -1;
        }
        waysGone = 0;
        may = 0;
        must = -1;
        roam(s, 0, 0, k);
        return what == 0 ? waysGone : what == 1 ? may : waysGone == 0 ? 0 : must;
    }

    private void roam(int at, int call, int seen, int k) {
        int now = seen | (crowdCalls.get(call) == at ? 1 << call : 0);
        if (call == crowdCalls.size() - 1) {
            if (Integer.bitCount(now) == k) {
                waysGone++;
                may |= now;
                must &= now;
            }
            return;
        }
        for (int to = 0; to < forests.size(); to++) {
            if (linked(at, to)) {
                roam(to, call + 1, now, k);
            }
        }
    }

    int helpers() {
        int n = forests.size();
        for (int size = 0; size <= n; size++) {
            for (int set = 0; set < 1 << n; set++) {
                if (Integer.bitCount(set) == size && helped(set)) {
                    return set;
                }
            }
        }
        return -99;
    }

    private boolean helped(int set) {
        for (int i = 0; i < forests.size(); i++) {
            boolean some = false;
            for (int j = 0; j < forests.size(); j++) {
                some |= (set >> j & 1) == 1 && linked(i, j);
            }
            if (!some) {
                return false;
            }
        }
        return true;
    }

    int watch(int a, int b) {
        if (!isLand(a) || !isLand(b) || linked(a, b)) {
            return -1;
        }
        int n = forests.size();
        for (int size = 0; size <= n; size++) {
            for (int set = 0; set < 1 << n; set++) {
                boolean fit = Integer.bitCount(set) == size && (set >> a & 1) == 0 && (set >> b & 1) == 0;
                if (fit && !reaches(a, b, set, new boolean[8])) {
                    return set;
                }
            }
        }
        return -99;
    }

    private boolean reaches(int a, int b, int without, boolean[] seen) {
        if (a == b) {
            return true;
        }
        seen[a] = true;
        for (int to = 0; to < forests.size(); to++) {
            if (roads[a][to] && !seen[to] && (without >> to & 1) == 0 && reaches(to, b, without, seen)) {
                return true;
            }
        }
        return false;
    }

    boolean borders(int set) {
        if (set < 0 || set > 255) {
            return false;
        }
        borderSet = set;
        return true;
    }

    int toBorder(int land) {
        if (!isLand(land)) {
            return -1;
        }
        int least = 100;
        for (int i = 0; i < forests.size(); i++) {
            if ((borderSet >> i & 1) == 1) {
                least = Math.min(least, distances()[land][i]);
            }
        }
        return least > 99 ? -1 : least;
    }

    boolean reports(int n) {
        if (n < 0 || n > 8) {
            return false;
        }
        reportCount = n;
        unlikePairs.clear();
        return true;
    }

    int unlike(int a, int b) {
        if (a < 0 || b < 0 || a >= reportCount || b >= reportCount || a == b || unlikePairs.size() == 8) {
            return -2;
        }
        unlikePairs.add(new int[] {a, b});
        return unlikePairs.size();
    }

    int heads(int i) {
        if (i < -1 || i >= reportCount) {
            return -2;
        }
        for (int k = 0; k <= reportCount; k++) {
            int all = 1;
            for (int j = 0; j < reportCount; j++) {
                all *= k;
            }
            for (int code = 0; code < all; code++) {
                int[] head = new int[reportCount];
                int rest = code;
                for (int j = reportCount - 1; j >= 0; j--) {
                    head[j] = rest % k;
                    rest /= k;
                }
                boolean ok = true;
                for (int[] u : unlikePairs) {
                    ok &= head[u[0]] != head[u[1]];
                }
                if (ok) {
                    return i == -1 ? k : head[i];
                }
            }
        }
        return i == -1 ? 0 : -99;
    }

    boolean has(boolean second, int first, int other, int what) {
        if (first < 0 || first > 1 || other < 0 || other > 1 || what < 0 || what > 99) {
            return false;
        }
        gains[second ? 1 : 0][first][other] = what;
        return true;
    }

    int rests() {
        int bits = 0;
        for (int a = 0; a < 2; a++) {
            for (int b = 0; b < 2; b++) {
                if (gains[0][a][b] >= gains[0][1 - a][b] && gains[1][a][b] >= gains[1][a][1 - b]) {
                    bits += 1 << a + 2 * b;
                }
            }
        }
        return bits;
    }

    /** Tries every fraction: the lowest terms come first. */
    int mixed(boolean low) {
        int[][] g = gains[1];
        boolean flat = g[0][0] == g[0][1] && g[1][0] == g[1][1];
        for (int down = 2; down <= 198 && !flat; down++) {
            for (int up = 1; up < down; up++) {
                int peace = up * g[0][0] + (down - up) * g[1][0];
                int strike = up * g[0][1] + (down - up) * g[1][1];
                if (peace == strike) {
                    return low ? down : up;
                }
            }
        }
        return -1;
    }

    int befell(int p, int what) {
        if (p != -1 && !isPerson(p) || what < 0 || what > 6) {
            return -2;
        }
        int n = 0;
        for (int[] e : book) {
            n += (p == -1 || e[1] == p) && e[2] == what ? 1 : 0;
        }
        return n;
    }

    int heirs(int p) {
        return isPerson(p) ? ofLand(persons.get(p).land, 2) & ~(1 << p) : -1;
    }

    int feared() {
        int who = -1;
        int most = 0;
        for (int p = 0; p < persons.size(); p++) {
            int n = Integer.bitCount(heirs(p) & wolves());
            if (persons.get(p).how != 3 && n > most) {
                most = n;
                who = p;
            }
        }
        return who;
    }

    int wolves() {
        int bits = 0;
        for (int p = 0; p < persons.size(); p++) {
            bits += persons.get(p).how == 1 ? 1 << p : 0;
        }
        return bits;
    }

    int paid(int p, int price) {
        if (p == -1) {
            paidList.clear();
            return 0;
        }
        if (!isPerson(p) || price < 0 || price > 9999 || paidList.size() == 8) {
            return -2;
        }
        paidList.add(new int[] {p, price});
        return paidList.size();
    }

    int whose() {
        int bits = 0;
        for (int t = 0; t < texts.size(); t++) {
            boolean ok = true;
            for (int[] e : paidList) {
                ok &= law("price", t, e[0], persons.get(e[0]).land) == e[1];
            }
            bits += ok ? 1 << t : 0;
        }
        return bits;
    }

    int image() {
        Slow s = fresh();
        s.become(this);
        kept = s;
        return month;
    }

    int back() {
        become(kept);
        return month;
    }

    int about(int what) {
        return switch (what) {
            case 0 -> forests.size();
            case 1 -> persons.size();
            case 2 -> texts.size();
            case 3 -> ruling;
            case 4 -> taken.size();
            case 5 -> crowdCalls.size();
            case 6 -> reportCount;
            case 7 -> unlikePairs.size();
            case 8 -> paidList.size();
            case 9 -> tape.length();
            default -> -2;
        };
    }
}
