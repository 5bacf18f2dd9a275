/**
 * Outlaws, the lands they hide in and the laws they live by, as the document
 * of WolfsHead promises them.
 *
 * All rows are made with the object and used again, since what a run makes
 * is never given back: no call makes anything.
 */
public final class WolfsHead {
    public static final int NONE = -1;

    /** The answer for what can't be asked, where NONE has a meaning of its own. */
    private static final int OTHER = -2;
    private static final int NO_WAY = -3;

    private static final int MAX_LANDS = 8;
    private static final int MAX_PERSONS = 6;
    private static final int MAX_TEXTS = 4;
    private static final int MAX_CALLS = 5;
    private static final int MAX_HUNGER = 9;
    private static final int MAX_DIGIT = 9;
    private static final int MAX_NUMBER = 9999;
    private static final int MAX_MONTHS = 60;
    private static final int MAX_REIGNS = 40;
    private static final int MAX_WAY = 6;
    private static final int MAX_ROADS_ASKED = 9;
    private static final int FIRST_X = 149;

    private static final int FREE = 0;
    private static final int OUTLAW = 1;
    private static final int PARDONED = 2;
    private static final int DEAD = 3;

    private static final int COURT = 0;
    private static final int OUTLAWED = 1;
    private static final int FED = 2;
    private static final int STARVED = 3;
    private static final int FOUND = 4;
    private static final int KILLED = 5;
    private static final int FORGIVEN = 6;

    private static final int HUNGERS = 0;
    private static final int FINDS = 1;
    private static final int PRICE = 2;
    private static final int EARNS = 3;

    private final Realm realm = new Realm();
    private final Realm kept = new Realm();
    private final Text[] texts = new Text[MAX_TEXTS];
    private final Tape tape = new Tape();
    private final Reader reader = new Reader(tape);
    private final Laws laws = new Laws(realm, texts);
    private final Folk folk = realm.folk;
    private final Lands lands = realm.lands;
    private final Notes notes = realm.notes;
    private final Steps taken = realm.taken;
    private final Deeds deeds = new Deeds(realm, folk, laws);
    private final Folk dreamt = new Folk();
    private final Deeds dream = new Deeds(realm, dreamt, laws);
    private final Ways ways = new Ways();

    public WolfsHead() {
        for (int i = 0; i < MAX_TEXTS; i++) {
            texts[i] = new Text();
        }
    }

    // ---- what is told ----

    public int land(int forest) {
        return lands.tell(forest);
    }

    public boolean road(int one, int other) {
        return lands.join(one, other);
    }

    public int person(int land, int fear, int goods, int debts) {
        if (!lands.told(land)) {
            return NONE;
        }
        return folk.tell(land, fear, goods, debts);
    }

    public int feed(int a, int b, int c, int d, int e) {
        if (!tape.hasRoom()) {
            return NONE;
        }
        tape.take(a);
        tape.take(b);
        tape.take(c);
        tape.take(d);
        tape.take(e);
        return tape.length;
    }

    public int end(int n) {
        if (n < 0 || n > tape.length) {
            return NONE;
        }
        tape.length = n;
        return n;
    }

    public int text() {
        int number = realm.texts;
        if (number < 0 || number >= MAX_TEXTS) {
            return NONE;
        }
        boolean good = reader.read(texts[number]);
        tape.length = 0;
        if (!good) {
            return NONE;
        }
        realm.texts = number + 1;
        return number;
    }

    public int fault(int what) {
        if (what == 0) {
            return reader.fault;
        }
        return what == 1 ? reader.place : NONE;
    }

    public boolean by(int text) {
        if (text != NONE && !textTold(text)) {
            return false;
        }
        realm.ruling = text;
        return true;
    }

    private boolean textTold(int text) {
        return text >= 0 && text < realm.texts && text < MAX_TEXTS;
    }

    // ---- steps ----

    public int call(int person, int land) {
        taken.ahead(folk);
        int calls = deeds.summon(person, land);
        if (calls != NONE) {
            taken.keep();
        }
        return calls;
    }

    public boolean move(int person, int land) {
        taken.ahead(folk);
        boolean done = deeds.travel(person, land);
        if (done) {
            taken.keep();
        }
        return done;
    }

    public int feeds(int person, int by) {
        taken.ahead(folk);
        int calls = deeds.nourish(person, by);
        if (calls != NONE) {
            taken.keep();
        }
        return calls;
    }

    public boolean kill(int person, int by) {
        taken.ahead(folk);
        boolean done = deeds.slay(person, by);
        if (done) {
            taken.keep();
        }
        return done;
    }

    public int pardon(int person, int by) {
        taken.ahead(folk);
        int price = deeds.forgive(person, by);
        if (price != NONE) {
            taken.keep();
        }
        return price;
    }

    public int month(int n) {
        if (n < 1 || n > MAX_MONTHS || folk.monthNow() + n > MAX_NUMBER) {
            return NONE;
        }
        int died = 0;
        for (int i = 0; i < n; i++) {
            taken.ahead(folk);
            died += Math.max(deeds.passMonth(), 0);
            taken.keep();
        }
        return died;
    }

    public int played(int text) {
        if (!textTold(text)) {
            return OTHER;
        }
        Text script = texts[text];
        if (script == null) {
            return OTHER;
        }
        for (int i = 0; i < script.clauses; i++) {
            if (!perform(script, i)) {
                return i;
            }
        }
        return NONE;
    }

    private boolean perform(Text script, int clause) {
        int a = script.part(clause, 1);
        int b = script.part(clause, 2);
        switch (script.part(clause, 0)) {
            case Tape.LAND:
                return land(a) != NONE;
            case Tape.ROAD:
                return road(a, b);
            case Tape.PERSON:
                return person(a, b, script.part(clause, 3), script.part(clause, 4)) != NONE;
            case Tape.CALL:
                return call(a, b) != NONE;
            case Tape.MOVE:
                return move(a, b);
            case Tape.FEED:
                return feeds(a, b) != NONE;
            case Tape.KILL:
                return kill(a, b);
            case Tape.PARDON:
                return pardon(a, b) != NONE;
            case Tape.MONTH:
                return passAll(a);
            default:
                return true;
        }
    }

    /** Unlike by hand, a script's months pass as far as they can before they are refused. */
    private boolean passAll(int n) {
        for (int i = 0; i < n; i++) {
            taken.ahead(folk);
            if (deeds.passMonth() == NONE) {
                return false;
            }
            taken.keep();
        }
        return true;
    }

    public int reigns(int seed, int n) {
        if (seed < 0 || seed > MAX_NUMBER || n < 1 || n > MAX_REIGNS) {
            return NONE;
        }
        if (folk.count() == 0 || lands.count == 0) {
            return NONE;
        }
        taken.ahead(folk);
        folk.setX(seed * 2 + FIRST_X);
        for (int i = 0; i < n; i++) {
            reignOnce();
        }
        taken.keep();
        return folk.monthNow();
    }

    private void reignOnce() {
        int persons = folk.count();
        if (persons <= 0 || lands.count <= 0) {
            return;
        }
        int x = folk.x();
        folk.stir();
        int whom = x % persons;
        int where = x / 7 % lands.count;
        int who = x / 5 % persons;
        switch (x % 7) {
            case 2:
                deeds.travel(whom, where);
                break;
            case 3:
                deeds.nourish(whom, who);
                break;
            case 4:
                if (x % 4 == 0) {
                    deeds.slay(whom, who);
                }
                break;
            case 5:
                deeds.forgive(whom, who);
                break;
            case 6:
                deeds.passMonth();
                break;
            default:
                deeds.summon(whom, where);
                break;
        }
    }

    public int undo() {
        return taken.takeBack(folk);
    }

    // ---- how things are ----

    public int of(int person, int what) {
        if (!folk.told(person)) {
            return NONE;
        }
        int land = folk.get(person, Folk.LAND);
        switch (what) {
            case 0:
                return land;
            case 1:
                return folk.fearOf(person);
            case 2:
                return folk.get(person, Folk.GOODS);
            case 3:
                return folk.get(person, Folk.DEBTS);
            case 4:
                return folk.get(person, Folk.CALLS);
            case 5:
                return folk.get(person, Folk.HUNGER);
            case 6:
                return folk.get(person, Folk.OUT);
            case 7:
                return folk.get(person, Folk.HOW);
            case 8:
                return laws.rule(realm.ruling, HUNGERS, folk, person, land);
            case 9:
                return laws.rule(realm.ruling, FINDS, folk, person, land);
            case 10:
                return laws.rule(realm.ruling, PRICE, folk, person, land);
            case 11:
                return laws.rule(realm.ruling, EARNS, folk, person, land);
            case 12:
                return Integer.bitCount(folk.othersIn(land, person));
            default:
                return NONE;
        }
    }

    public int ofLand(int land, int what) {
        if (!lands.told(land)) {
            return NONE;
        }
        switch (what) {
            case 0:
                return lands.forestOf(land);
            case 1:
                return lands.near(land);
            case 2:
                return folk.othersIn(land, NONE);
            default:
                return NONE;
        }
    }

    public int is(int what) {
        if (what == 0) {
            return folk.monthNow();
        }
        return what == 1 ? folk.x() : OTHER;
    }

    public int book(int i, int what) {
        if (i == NONE) {
            return folk.written();
        }
        if (i < 0 || i >= folk.written()) {
            return OTHER;
        }
        switch (what) {
            case 0:
                return folk.entryMonth(i);
            case 1:
                return folk.entryPerson(i);
            case 2:
                return folk.entryWhat(i);
            default:
                return OTHER;
        }
    }

    // ---- what comes ----

    public int foretold(int n, int person, boolean goods) {
        if (n < 1 || n > MAX_MONTHS || !folk.told(person)) {
            return NONE;
        }
        dreamt.become(folk);
        for (int i = 0; i < n; i++) {
            dream.passMonth();
        }
        return dreamt.get(person, goods ? Folk.GOODS : Folk.HOW);
    }

    public int toPay(int person, int by) {
        if (!folk.told(person) || !folk.told(by)) {
            return NONE;
        }
        dreamt.become(folk);
        for (int months = 0; months <= MAX_MONTHS; months++) {
            if (dream.priceFor(person, by) != NONE) {
                return months;
            }
            if (dream.passMonth() == NONE) {
                return NONE;
            }
        }
        return NONE;
    }

    public int surest(int person, int n, int i) {
        if (n < 1 || n > MAX_WAY || i < OTHER || i >= n) {
            return NO_WAY;
        }
        if (!folk.told(person) || folk.get(person, Folk.HOW) != OUTLAW) {
            return NO_WAY;
        }
        ways.seekSurest(realm, laws, person, n);
        if (i == OTHER) {
            return ways.upper;
        }
        return i == NONE ? ways.lower : ways.landAt(i);
    }

    public int steps(int one, int other) {
        if (!lands.told(one) || !lands.told(other)) {
            return NONE;
        }
        return lands.distance(one, 1 << other);
    }

    public int unheard(int land, int n) {
        if (!lands.told(land) || n < 0 || n > MAX_ROADS_ASKED) {
            return NONE;
        }
        int reached = 1 << land;
        for (int i = 0; i < n; i++) {
            reached = lands.spread(reached);
        }
        return lands.all() & ~reached;
    }

    public int crowd(int land) {
        if (land == NONE) {
            notes.forgetCalls();
            return 0;
        }
        return lands.told(land) ? notes.noteCall(land) : OTHER;
    }

    public int inCrowd(int s, int k, int what) {
        if (!lands.told(s) || k < 0 || k > Notes.MAX_CROWD || notes.calls == 0) {
            return NONE;
        }
        if (what < 0 || what > 2) {
            return NONE;
        }
        ways.countInCrowd(lands, notes, s, k);
        if (what == 0) {
            return ways.gone;
        }
        return what == 1 ? ways.may : ways.must;
    }

    // ---- lands and heads ----

    public int helpers() {
        return lands.fewestHelpers();
    }

    public int watch(int a, int b) {
        return lands.fewestWatched(a, b);
    }

    public boolean borders(int lands) {
        if (lands < 0 || lands >= 1 << MAX_LANDS) {
            return false;
        }
        notes.bordering = lands;
        return true;
    }

    public int toBorder(int land) {
        if (!lands.told(land)) {
            return NONE;
        }
        return lands.distance(land, notes.bordering);
    }

    public boolean reports(int n) {
        return notes.tellReports(n);
    }

    public int unlike(int one, int other) {
        return notes.tellUnlike(one, other);
    }

    public int heads(int i) {
        if (i != NONE && !notes.reported(i)) {
            return OTHER;
        }
        int fewest = notes.paintFewest();
        return i == NONE ? fewest : notes.headOf(i);
    }

    public boolean has(boolean second, int first, int other, int what) {
        if (first < 0 || first > 1 || other < 0 || other > 1) {
            return false;
        }
        return notes.tellGain(second, first, other, what);
    }

    public int rests() {
        return notes.calmPairs();
    }

    public int mixed(boolean low) {
        return notes.evenOdds(low);
    }

    // ---- by the book and by the laws ----

    public int befell(int person, int what) {
        if (what < COURT || what > FORGIVEN || (person != NONE && !folk.told(person))) {
            return OTHER;
        }
        int times = 0;
        for (int i = 0; i < folk.written(); i++) {
            boolean its = person == NONE || folk.entryPerson(i) == person;
            if (its && folk.entryWhat(i) == what) {
                times++;
            }
        }
        return times;
    }

    public int heirs(int person) {
        if (!folk.told(person)) {
            return NONE;
        }
        return folk.othersIn(folk.get(person, Folk.LAND), person);
    }

    public int feared() {
        int outlaws = folk.outlaws();
        int best = NONE;
        int most = 0;
        for (int person = 0; person < folk.count(); person++) {
            if (folk.get(person, Folk.HOW) == DEAD) {
                continue;
            }
            int others = folk.othersIn(folk.get(person, Folk.LAND), person);
            int near = Integer.bitCount(others & outlaws);
            if (near > most) {
                most = near;
                best = person;
            }
        }
        return best;
    }

    public int wolves() {
        return folk.outlaws();
    }

    public int paid(int person, int price) {
        if (person == NONE) {
            notes.forgetPaid();
            return 0;
        }
        if (!folk.told(person) || price < 0 || price > MAX_NUMBER) {
            return OTHER;
        }
        return notes.notePaid(person, price);
    }

    public int whose() {
        int those = 0;
        for (int text = 0; text < realm.texts; text++) {
            if (explains(text)) {
                those |= 1 << text;
            }
        }
        return those;
    }

    private boolean explains(int text) {
        for (int i = 0; i < notes.payments; i++) {
            int person = notes.payer(i);
            int land = folk.get(person, Folk.LAND);
            if (laws.rule(text, PRICE, folk, person, land) != notes.payment(i)) {
                return false;
            }
        }
        return true;
    }

    // ---- the image ----

    public int image() {
        kept.become(realm);
        return folk.monthNow();
    }

    public int back() {
        realm.become(kept);
        return folk.monthNow();
    }

    public int about(int what) {
        switch (what) {
            case 0:
                return lands.count;
            case 1:
                return folk.count();
            case 2:
                return realm.texts;
            case 3:
                return realm.ruling;
            case 4:
                return taken.count;
            case 5:
                return notes.calls;
            case 6:
                return notes.reportCount;
            case 7:
                return notes.unlikes;
            case 8:
                return notes.payments;
            case 9:
                return tape.length;
            default:
                return OTHER;
        }
    }

    private static int commonDivisor(int one, int other) {
        int a = Math.abs(one);
        int b = Math.abs(other);
        for (int turn = 0; turn < 64 && b != 0; turn++) {
            int rest = a % b;
            a = b;
            b = rest;
        }
        return a;
    }

    /** All that an image holds. */
    private static final class Realm {
        final Lands lands = new Lands();
        final Folk folk = new Folk();
        final Steps taken = new Steps();
        final Notes notes = new Notes();
        /** How many: a text's row is written anew only by one told when it isn't there. */
        int texts = 0;
        int ruling = NONE;

        void become(Realm other) {
            lands.become(other.lands);
            folk.become(other.folk);
            taken.become(other.taken);
            notes.become(other.notes);
            texts = other.texts;
            ruling = other.ruling;
        }
    }

    /** Lands and the roads between them; sets of lands are bits. */
    private static final class Lands {
        int count = 0;
        private final int[] forests = new int[MAX_LANDS];
        private final int[] roads = new int[MAX_LANDS];

        void become(Lands other) {
            count = other.count;
            System.arraycopy(other.forests, 0, forests, 0, MAX_LANDS);
            System.arraycopy(other.roads, 0, roads, 0, MAX_LANDS);
        }

        boolean told(int land) {
            return land >= 0 && land < count && land < MAX_LANDS;
        }

        int tell(int forest) {
            if (forest < 0 || forest > MAX_DIGIT || count < 0 || count >= MAX_LANDS) {
                return NONE;
            }
            forests[count] = forest;
            count++;
            return count - 1;
        }

        boolean join(int one, int other) {
            if (!told(one) || !told(other) || one == other || joined(one, other)) {
                return false;
            }
            roads[one] |= 1 << other;
            roads[other] |= 1 << one;
            return true;
        }

        boolean joined(int one, int other) {
            return told(one) && told(other) && (roads[one] >> other & 1) == 1;
        }

        int forestOf(int land) {
            return land >= 0 && land < count && land < MAX_LANDS ? forests[land] : 0;
        }

        int near(int land) {
            return land >= 0 && land < count && land < MAX_LANDS ? roads[land] : 0;
        }

        int all() {
            return (1 << count) - 1;
        }

        /** The set and all that one road leads to from it. */
        int spread(int set) {
            int wider = set;
            for (int land = 0; land < count && land < MAX_LANDS; land++) {
                if ((set >> land & 1) == 1) {
                    wider |= roads[land];
                }
            }
            return wider;
        }

        int distance(int from, int goals) {
            int reached = 1 << from;
            for (int n = 0; n < MAX_LANDS; n++) {
                if ((reached & goals) != 0) {
                    return n;
                }
                reached = spread(reached);
            }
            return NONE;
        }

        int fewestHelpers() {
            int every = all();
            int best = every;
            for (int set = 0; set <= every; set++) {
                boolean fewer = Integer.bitCount(set) < Integer.bitCount(best);
                if (fewer && spread(set) == every) {
                    best = set;
                }
            }
            return best;
        }

        int fewestWatched(int a, int b) {
            if (!told(a) || !told(b) || a == b || joined(a, b)) {
                return NONE;
            }
            int between = all() & ~(1 << a) & ~(1 << b);
            int best = between;
            for (int set = 0; set <= between; set++) {
                boolean fewer = Integer.bitCount(set) < Integer.bitCount(best);
                if (fewer && (set & ~between) == 0 && parts(set, a, b)) {
                    best = set;
                }
            }
            return best;
        }

        private boolean parts(int set, int a, int b) {
            int reached = 1 << a;
            for (int n = 0; n < MAX_LANDS; n++) {
                int wider = spread(reached) & ~set;
                if (wider == reached) {
                    break;
                }
                reached = wider;
            }
            return (reached >> b & 1) == 0;
        }
    }

    /** Persons, month, X and book: one row, so that a step is kept and taken back by one copy. */
    private static final class Folk {
        static final int LAND = 0;
        static final int GOODS = 1;
        static final int DEBTS = 2;
        static final int CALLS = 3;
        static final int HUNGER = 4;
        static final int OUT = 5;
        static final int HOW = 6;
        private static final int PARTS = 7;
        private static final int MAX_BOOK = 30;
        private static final int AT_MONTH = 0;
        private static final int AT_X = 1;
        private static final int AT_COUNT = 2;
        private static final int AT_WRITTEN = 3;
        private static final int AT_BOOK = 4;
        private static final int AT_PERSONS = AT_BOOK + MAX_BOOK;
        static final int ROW = AT_PERSONS + MAX_PERSONS * PARTS;
        private static final int TOLD_PARTS = 3;

        private final int[] row = new int[ROW];
        private final int[] fears = new int[MAX_PERSONS];
        /** Land, goods and debts as they were told: a step taken back leaves later persons so. */
        private final int[] asTold = new int[MAX_PERSONS * TOLD_PARTS];

        Folk() {
            row[AT_X] = FIRST_X;
        }

        void become(Folk other) {
            System.arraycopy(other.row, 0, row, 0, ROW);
            System.arraycopy(other.fears, 0, fears, 0, MAX_PERSONS);
            System.arraycopy(other.asTold, 0, asTold, 0, MAX_PERSONS * TOLD_PARTS);
        }

        void copyTo(int[] store, int at) {
            if (at >= 0 && at <= store.length - ROW) {
                System.arraycopy(row, 0, store, at, ROW);
            }
        }

        void takeFrom(int[] store, int at) {
            if (at < 0 || at > store.length - ROW) {
                return;
            }
            int now = count();
            System.arraycopy(store, at, row, 0, ROW);
            int then = count();
            row[AT_COUNT] = Math.max(now, then);
            for (int person = then; person < now; person++) {
                settle(person);
            }
        }

        int tell(int land, int fear, int goods, int debts) {
            int person = count();
            if (person < 0 || person >= MAX_PERSONS || fear < 0 || fear > MAX_DIGIT) {
                return NONE;
            }
            if (goods < 0 || goods > MAX_NUMBER || debts < 0 || debts > MAX_NUMBER) {
                return NONE;
            }
            fears[person] = fear;
            asTold[person * TOLD_PARTS] = land;
            asTold[person * TOLD_PARTS + 1] = goods;
            asTold[person * TOLD_PARTS + 2] = debts;
            row[AT_COUNT] = person + 1;
            settle(person);
            return person;
        }

        private void settle(int person) {
            if (!told(person)) {
                return;
            }
            set(person, LAND, asTold[person * TOLD_PARTS]);
            set(person, GOODS, asTold[person * TOLD_PARTS + 1]);
            set(person, DEBTS, asTold[person * TOLD_PARTS + 2]);
            set(person, CALLS, 0);
            set(person, HUNGER, 0);
            set(person, OUT, 0);
            set(person, HOW, FREE);
        }

        int count() {
            return row[AT_COUNT];
        }

        boolean told(int person) {
            return person >= 0 && person < row[AT_COUNT] && person < MAX_PERSONS;
        }

        int get(int person, int part) {
            boolean there = person >= 0 && person < row[AT_COUNT] && person < MAX_PERSONS;
            if (!there || part < 0 || part >= PARTS) {
                return 0;
            }
            return row[AT_PERSONS + person * PARTS + part];
        }

        void set(int person, int part, int value) {
            if (told(person) && part >= 0 && part < PARTS) {
                row[AT_PERSONS + person * PARTS + part] = value;
            }
        }

        int fearOf(int person) {
            return person >= 0 && person < row[AT_COUNT] && person < MAX_PERSONS ? fears[person] : 0;
        }

        /** Those that aren't dead in a land, but one (bits). */
        int othersIn(int land, int but) {
            int others = 0;
            for (int person = 0; person < row[AT_COUNT] && person < MAX_PERSONS; person++) {
                int at = AT_PERSONS + person * PARTS;
                if (person != but && row[at + LAND] == land && row[at + HOW] != DEAD) {
                    others |= 1 << person;
                }
            }
            return others;
        }

        int outlaws() {
            int those = 0;
            for (int person = 0; person < count(); person++) {
                if (get(person, HOW) == OUTLAW) {
                    those |= 1 << person;
                }
            }
            return those;
        }

        int monthNow() {
            return row[AT_MONTH];
        }

        void nextMonth() {
            row[AT_MONTH]++;
        }

        int x() {
            return row[AT_X];
        }

        void setX(int x) {
            row[AT_X] = x;
        }

        void stir() {
            row[AT_X] = (row[AT_X] * 379 + 257) % 30469;
        }

        /** X as it is draws; it is anew for the next one then. */
        int drawByTen() {
            int drawn = row[AT_X] % 10;
            stir();
            return drawn;
        }

        void write(int person, int what) {
            int n = row[AT_WRITTEN];
            if (n >= MAX_BOOK) {
                System.arraycopy(row, AT_BOOK + 1, row, AT_BOOK, MAX_BOOK - 1);
                n = MAX_BOOK - 1;
            }
            if (n >= 0) {
                row[AT_BOOK + n] = row[AT_MONTH] * 64 + person * 8 + what;
                row[AT_WRITTEN] = n + 1;
            }
        }

        int written() {
            return row[AT_WRITTEN];
        }

        private int entry(int i) {
            return i >= 0 && i < row[AT_WRITTEN] && i < MAX_BOOK ? row[AT_BOOK + i] : 0;
        }

        int entryMonth(int i) {
            return entry(i) / 64;
        }

        int entryPerson(int i) {
            return entry(i) / 8 % 8;
        }

        int entryWhat(int i) {
            return entry(i) % 8;
        }
    }

    /**
     * The latest steps that can be taken back. There is one slot more than
     * steps, so that one can be written down ahead of a deed that may fail.
     */
    private static final class Steps {
        private static final int MAX_STEPS = 30;
        private static final int SLOTS = MAX_STEPS + 1;

        int count = 0;
        private int next = 0;
        private final int[] store = new int[SLOTS * Folk.ROW];

        void become(Steps other) {
            count = other.count;
            next = other.next;
            System.arraycopy(other.store, 0, store, 0, SLOTS * Folk.ROW);
        }

        void ahead(Folk folk) {
            folk.copyTo(store, next * Folk.ROW);
        }

        void keep() {
            next = (next + 1) % SLOTS;
            count = Math.min(count + 1, MAX_STEPS);
        }

        int takeBack(Folk folk) {
            if (count <= 0) {
                return NONE;
            }
            next = (next + SLOTS - 1) % SLOTS;
            count--;
            folk.takeFrom(store, next * Folk.ROW);
            return count;
        }
    }

    /** What is told for the questions: calls, borders, reports, gains and prices. */
    private static final class Notes {
        static final int MAX_CROWD = 5;
        private static final int MAX_REPORTS = 8;
        private static final int MAX_UNLIKE = 8;
        private static final int MAX_PAID = 8;
        private static final int MAX_GAIN = 99;
        private static final int GAINS = 8;

        int calls = 0;
        int bordering = 0;
        int reportCount = 0;
        int unlikes = 0;
        int payments = 0;
        private final int[] callLands = new int[MAX_CROWD];
        private final int[] unlikeTo = new int[MAX_REPORTS];
        private final int[] owners = new int[MAX_REPORTS];
        private final int[] gains = new int[GAINS];
        private final int[] payers = new int[MAX_PAID];
        private final int[] prices = new int[MAX_PAID];

        void become(Notes other) {
            calls = other.calls;
            bordering = other.bordering;
            reportCount = other.reportCount;
            unlikes = other.unlikes;
            payments = other.payments;
            System.arraycopy(other.callLands, 0, callLands, 0, MAX_CROWD);
            System.arraycopy(other.unlikeTo, 0, unlikeTo, 0, MAX_REPORTS);
            System.arraycopy(other.gains, 0, gains, 0, GAINS);
            System.arraycopy(other.payers, 0, payers, 0, MAX_PAID);
            System.arraycopy(other.prices, 0, prices, 0, MAX_PAID);
        }

        void forgetCalls() {
            calls = 0;
        }

        int noteCall(int land) {
            if (calls < 0 || calls >= MAX_CROWD) {
                return OTHER;
            }
            callLands[calls] = land;
            calls++;
            return calls;
        }

        int callLand(int i) {
            return i >= 0 && i < calls && i < MAX_CROWD ? callLands[i] : NONE;
        }

        boolean tellReports(int n) {
            if (n < 0 || n > MAX_REPORTS) {
                return false;
            }
            reportCount = n;
            unlikes = 0;
            for (int i = 0; i < MAX_REPORTS; i++) {
                unlikeTo[i] = 0;
            }
            return true;
        }

        boolean reported(int report) {
            return report >= 0 && report < reportCount && report < MAX_REPORTS;
        }

        int tellUnlike(int one, int other) {
            if (!reported(one) || !reported(other) || one == other || unlikes >= MAX_UNLIKE) {
                return OTHER;
            }
            unlikeTo[one] |= 1 << other;
            unlikeTo[other] |= 1 << one;
            unlikes++;
            return unlikes;
        }

        int paintFewest() {
            for (int heads = 0; heads <= reportCount; heads++) {
                if (paint(0, 0, heads)) {
                    return heads;
                }
            }
            return reportCount;
        }

        /** Gives heads from one report on, lowest first; as deep as there are reports. */
        private boolean paint(int report, int used, int heads) {
            if (!reported(report)) {
                return true;
            }
            for (int head = 0; head < heads && head <= used; head++) {
                if (!fits(report, head)) {
                    continue;
                }
                owners[report] = head;
                if (paint(report + 1, Math.max(used, head + 1), heads)) {
                    return true;
                }
            }
            return false;
        }

        private boolean fits(int report, int head) {
            for (int other = 0; other < report; other++) {
                if (owners[other] == head && (unlikeTo[other] >> report & 1) == 1) {
                    return false;
                }
            }
            return true;
        }

        int headOf(int report) {
            return reported(report) ? owners[report] : OTHER;
        }

        boolean tellGain(boolean second, int first, int other, int gain) {
            if (gain < 0 || gain > MAX_GAIN) {
                return false;
            }
            gains[(second ? 4 : 0) + (first & 1) * 2 + (other & 1)] = gain;
            return true;
        }

        private int gain(boolean second, int first, int other) {
            return gains[(second ? 4 : 0) + (first & 1) * 2 + (other & 1)];
        }

        int calmPairs() {
            int calm = 0;
            for (int pair = 0; pair < 4; pair++) {
                int first = pair & 1;
                int other = pair >> 1;
                boolean firstRests = gain(false, first, other) >= gain(false, 1 - first, other);
                boolean otherRests = gain(true, first, other) >= gain(true, first, 1 - other);
                if (firstRests && otherRests) {
                    calm |= 1 << pair;
                }
            }
            return calm;
        }

        /** Where p * (peace gain) + (1 - p) * (strike gain) of the second is alike for both its choices. */
        int evenOdds(boolean low) {
            int struck = gain(true, 1, 1) - gain(true, 1, 0);
            int spared = gain(true, 0, 0) - gain(true, 0, 1);
            int upper = struck;
            int lower = struck + spared;
            if (lower < 0) {
                upper = -upper;
                lower = -lower;
            }
            int divisor = commonDivisor(upper, lower);
            if (upper <= 0 || upper >= lower || divisor == 0) {
                return NONE;
            }
            return low ? lower / divisor : upper / divisor;
        }

        void forgetPaid() {
            payments = 0;
        }

        int notePaid(int person, int price) {
            if (payments < 0 || payments >= MAX_PAID) {
                return OTHER;
            }
            payers[payments] = person;
            prices[payments] = price;
            payments++;
            return payments;
        }

        int payer(int i) {
            return i >= 0 && i < payments && i < MAX_PAID ? payers[i] : NONE;
        }

        int payment(int i) {
            return i >= 0 && i < payments && i < MAX_PAID ? prices[i] : NONE;
        }
    }

    /** The bytes that were fed, and the tokens they make. */
    private static final class Tape {
        // the words in the order of WORDS: the laws, the other clauses, the names
        // (land and month are both), then all others; behind them the signs
        static final int ROAD = 4;
        static final int PERSON = 5;
        static final int CALL = 6;
        static final int MOVE = 7;
        static final int FEED = 8;
        static final int KILL = 9;
        static final int PARDON = 10;
        static final int LAND = 11;
        static final int MONTH = 12;
        static final int WHO = 13;
        static final int FEAR = 14;
        static final int FOREST = 15;
        static final int HUNGER = 16;
        static final int OUT = 17;
        static final int GOODS = 18;
        static final int DEBTS = 19;
        static final int CROWD = 20;
        static final int TO = 21;
        static final int IN = 22;
        static final int BY = 23;
        static final int ONES = 24;
        static final int FEARS = 25;
        static final int IF = 26;
        static final int THEN = 27;
        static final int ELSE = 28;
        static final int END = 29;
        static final int NOT = 30;
        static final int AND = 31;
        static final int OR = 32;
        static final int AT_MOST = 33;
        static final int AT_LEAST = 34;
        static final int BELOW = 35;
        static final int ABOVE = 36;
        static final int SAME = 37;
        static final int UNLIKE = 38;
        static final int PLUS = 39;
        static final int MINUS = 40;
        static final int TIMES = 41;
        static final int SLASH = 42;
        static final int OPEN = 43;
        static final int CLOSE = 44;
        static final int SEMICOLON = 45;
        static final int NUMBER = 46;
        static final int NOTHING_MORE = 47;
        static final int UNKNOWN = 48;
        /** No token: what a minus of one ONE becomes in a text's code. */
        static final int NEGATE = 49;

        static final int MAX_BYTES = 300;
        private static final int FED_AT_ONCE = 20;
        private static final String WORDS = "hungers finds price earns road person call move feed kill pardon land month who fear forest hunger out goods debts crowd to in by ones fears if then else end not and or ";

        int length = 0;
        int tokens = 0;
        private final byte[] bytes = new byte[MAX_BYTES];
        private final int[] kinds = new int[MAX_BYTES + 1];
        private final int[] places = new int[MAX_BYTES + 1];
        private final int[] numbers = new int[MAX_BYTES + 1];

        boolean hasRoom() {
            return length + FED_AT_ONCE <= MAX_BYTES;
        }

        void take(int four) {
            for (int shift = 24; shift >= 0; shift -= 8) {
                if (length >= 0 && length < MAX_BYTES) {
                    bytes[length] = (byte) (four >>> shift);
                    length++;
                }
            }
        }

        void split() {
            tokens = 0;
            int at = 0;
            for (int turn = 0; turn < MAX_BYTES && at < length; turn++) {
                at = isBlank(byteAt(at)) ? at + 1 : cutToken(at);
            }
            put(NOTHING_MORE, length, 0);
        }

        private void put(int kind, int place, int number) {
            if (tokens >= 0 && tokens <= MAX_BYTES) {
                kinds[tokens] = kind;
                places[tokens] = place;
                numbers[tokens] = number;
                tokens++;
            }
        }

        /** Answers where the next one may begin. */
        private int cutToken(int at) {
            int first = byteAt(at);
            int end = at + 1;
            if (isLetter(first)) {
                while (end < length && isLetter(byteAt(end))) {
                    end++;
                }
                put(wordOf(at, end), at, 0);
            } else if (isDigit(first)) {
                int number = first - '0';
                while (end < length && isDigit(byteAt(end))) {
                    number = Math.min(number * 10 + byteAt(end) - '0', MAX_NUMBER + 1);
                    end++;
                }
                put(NUMBER, at, number);
            } else {
                int sign = signAt(at);
                put(sign, at, 0);
                end += sign == AT_MOST || sign == AT_LEAST ? 1 : 0;
            }
            return end;
        }

        /** The bytes' word, found by its place in WORDS. */
        private int wordOf(int at, int end) {
            int word = 0;
            int from = 0;
            for (int i = 0; i < WORDS.length(); i++) {
                if (WORDS.charAt(i) != ' ') {
                    continue;
                }
                if (i - from == end - at && spells(at, from, i - from)) {
                    return word;
                }
                word++;
                from = i + 1;
            }
            return UNKNOWN;
        }

        private boolean spells(int at, int from, int letters) {
            for (int i = 0; i < letters && from + i < WORDS.length(); i++) {
                if (WORDS.charAt(from + i) != byteAt(at + i)) {
                    return false;
                }
            }
            return true;
        }

        private int signAt(int at) {
            boolean andSame = byteAt(at + 1) == '=';
            switch (byteAt(at)) {
                case '<':
                    return andSame ? AT_MOST : BELOW;
                case '>':
                    return andSame ? AT_LEAST : ABOVE;
                case '=':
                    return SAME;
                case '#':
                    return UNLIKE;
                case '+':
                    return PLUS;
                case '-':
                    return MINUS;
                case '*':
                    return TIMES;
                case '/':
                    return SLASH;
                case '(':
                    return OPEN;
                case ')':
                    return CLOSE;
                case ';':
                    return SEMICOLON;
                default:
                    return UNKNOWN;
            }
        }

        private int byteAt(int at) {
            return at >= 0 && at < length && at < MAX_BYTES ? bytes[at] : NONE;
        }

        private static boolean isBlank(int sign) {
            return sign == 32 || sign == 10;
        }

        private static boolean isLetter(int sign) {
            return (sign >= 'a' && sign <= 'z') || (sign >= 'A' && sign <= 'Z');
        }

        private static boolean isDigit(int sign) {
            return sign >= '0' && sign <= '9';
        }

        int kind(int i) {
            return i >= 0 && i < tokens && i <= MAX_BYTES ? kinds[i] : NOTHING_MORE;
        }

        int place(int i) {
            return i >= 0 && i < tokens && i <= MAX_BYTES ? places[i] : length;
        }

        int number(int i) {
            return i >= 0 && i < tokens && i <= MAX_BYTES ? numbers[i] : 0;
        }
    }

    /**
     * A text that was read: its clauses, and the laws' sums with each sign
     * behind what it joins, so that a stack alone works them out.
     */
    private static final class Text {
        static final int MAX_CLAUSES = 24;
        private static final int CLAUSE_PARTS = 5;
        private static final int LAWS = 4;
        private static final int MAX_CODE = Tape.MAX_BYTES + 1;
        private static final int LIMIT = 1000000;

        int clauses = 0;
        private int length = 0;
        private int parts = 0;
        private final int[] code = new int[MAX_CODE];
        private final int[] starts = new int[LAWS];
        private final int[] ends = new int[LAWS];
        private final int[] rows = new int[MAX_CLAUSES * CLAUSE_PARTS];

        void empty() {
            clauses = 0;
            length = 0;
            parts = 0;
            for (int law = 0; law < LAWS; law++) {
                starts[law] = NONE;
                ends[law] = NONE;
            }
        }

        void openClause(int word) {
            clauses++;
            parts = 0;
            addPart(word);
            if (word >= 0 && word < LAWS) {
                starts[word] = length;
            }
        }

        void addPart(int value) {
            int at = (clauses - 1) * CLAUSE_PARTS + parts;
            if (parts < CLAUSE_PARTS && at >= 0 && at < rows.length) {
                rows[at] = value;
                parts++;
            }
        }

        int part(int clause, int i) {
            if (clause < 0 || clause >= clauses || clause >= MAX_CLAUSES || i < 0 || i >= CLAUSE_PARTS) {
                return 0;
            }
            return rows[clause * CLAUSE_PARTS + i];
        }

        void closeLaw(int law) {
            if (law >= 0 && law < LAWS) {
                ends[law] = length;
            }
        }

        boolean begun(int law) {
            return law >= 0 && law < LAWS && starts[law] != NONE;
        }

        void put(int kind, int value) {
            if (length >= 0 && length < MAX_CODE) {
                code[length] = value * 64 + kind;
                length++;
            }
        }

        /** A leap whose end isn't known yet: its place. */
        int putLeap(int kind) {
            put(kind, 0);
            return length - 1;
        }

        void leapsHere(int at, int kind) {
            if (at >= 0 && at < MAX_CODE) {
                code[at] = length * 64 + kind;
            }
        }

        int value(int law, int[] names, Folk folk, int[] stack) {
            if (!begun(law)) {
                return 0;
            }
            int top = 0;
            int at = starts[law];
            for (int turn = 0; turn < MAX_CODE && at >= 0 && at < ends[law] && at < MAX_CODE; turn++) {
                int kind = code[at] & 63;
                int told = code[at] >> 6;
                int name = kind - Tape.LAND;
                int last = Math.max(top - 1, 0);
                at++;
                if (kind == Tape.ELSE) {
                    at = told;
                } else if (kind == Tape.THEN) {
                    top = last;
                    at = stack[last] == 0 ? told : at;
                } else if (kind == Tape.NUMBER || (name >= 0 && name < names.length)) {
                    if (top < stack.length) {
                        stack[top] = kind == Tape.NUMBER ? told : names[name];
                        top++;
                    }
                } else if (kind == Tape.FEARS) {
                    stack[last] = folk.fearOf(stack[last]);
                } else if (kind == Tape.ONES) {
                    stack[last] = Integer.bitCount(Math.abs(stack[last]));
                } else if (kind == Tape.NOT) {
                    stack[last] = 1 - stack[last];
                } else if (kind == Tape.NEGATE) {
                    stack[last] = -stack[last];
                } else if (top >= 2) {
                    top = last;
                    long joined = ofTwo(kind, stack[last - 1], stack[last]);
                    stack[last - 1] = (int) Math.max(-LIMIT, Math.min(LIMIT, joined));
                }
            }
            return stack[0];
        }

        private static long ofTwo(int kind, long a, long b) {
            switch (kind) {
                case Tape.PLUS:
                    return a + b;
                case Tape.MINUS:
                    return a - b;
                case Tape.TIMES:
                    return a * b;
                case Tape.SLASH:
                    return b == 0 ? 0 : a / b;
                case Tape.AND:
                    return a & b;
                case Tape.OR:
                    return a | b;
                case Tape.BELOW:
                    return a < b ? 1 : 0;
                case Tape.AT_MOST:
                    return a <= b ? 1 : 0;
                case Tape.ABOVE:
                    return a > b ? 1 : 0;
                case Tape.AT_LEAST:
                    return a >= b ? 1 : 0;
                case Tape.SAME:
                    return a == b ? 1 : 0;
                default:
                    return a != b ? 1 : 0;
            }
        }
    }

    /** Reads the tape into a text, up to the first fault. */
    private static final class Reader {
        private static final int MISPLACED = 1;
        private static final int OUT_OF_RANGE = 2;
        private static final int TOO_DEEP = 3;
        private static final int LAW_TWICE = 4;
        private static final int FOREIGN_NAME = 5;
        private static final int TOO_MANY = 6;
        private static final int MAX_OPEN = 8;
        /** For each name, from land on, the laws it may stand in (bits). */
        private static final int[] NAME_LAWS = {15, 15, 15, 15, 15, 7, 7, 12, 12, 10};

        /** NONE ahead of any text, as the document has it; 0 without. */
        int fault = NONE;
        int place = NONE;
        private final Tape tape;
        private Text text = null;
        private int at = 0;
        private int law = 0;

        Reader(Tape tape) {
            this.tape = tape;
        }

        boolean read(Text into) {
            if (into == null) {
                return false;
            }
            text = into;
            text.empty();
            tape.split();
            at = 0;
            fault = 0;
            place = NONE;
            for (int i = 0; i <= Text.MAX_CLAUSES && token() != Tape.NOTHING_MORE; i++) {
                if (!clause(i)) {
                    return false;
                }
            }
            return true;
        }

        private int token() {
            return tape.kind(at);
        }

        private void next() {
            if (at < tape.tokens - 1) {
                at++;
            }
        }

        private boolean fail(int what) {
            fault = what;
            place = tape.place(at);
            return false;
        }

        private boolean expect(int kind) {
            if (token() != kind) {
                return fail(MISPLACED);
            }
            next();
            return true;
        }

        private boolean clause(int number) {
            int word = token();
            if (word < HUNGERS || word > Tape.MONTH) {
                return fail(MISPLACED);
            }
            if (word <= EARNS && text.begun(word)) {
                return fail(LAW_TWICE);
            }
            if (number >= Text.MAX_CLAUSES) {
                return fail(TOO_MANY);
            }
            text.openClause(word);
            next();
            boolean good = word <= EARNS ? lawOf(word) : deedOf(word);
            return good && expect(Tape.SEMICOLON);
        }

        private boolean lawOf(int word) {
            law = word;
            if (!sum(0)) {
                return false;
            }
            text.closeLaw(word);
            return true;
        }

        private boolean deedOf(int word) {
            int lastLand = MAX_LANDS - 1;
            int lastPerson = MAX_PERSONS - 1;
            switch (word) {
                case Tape.LAND:
                    return number(0, MAX_DIGIT);
                case Tape.ROAD:
                    return number(0, lastLand) && expect(Tape.TO) && number(0, lastLand);
                case Tape.PERSON:
                    return number(0, lastLand) && expect(Tape.FEAR) && number(0, MAX_DIGIT)
                        && expect(Tape.GOODS) && number(0, MAX_NUMBER)
                        && expect(Tape.DEBTS) && number(0, MAX_NUMBER);
                case Tape.CALL:
                    return number(0, lastPerson) && expect(Tape.IN) && number(0, lastLand);
                case Tape.MOVE:
                    return number(0, lastPerson) && expect(Tape.TO) && number(0, lastLand);
                case Tape.MONTH:
                    return number(1, MAX_MONTHS);
                default:
                    return number(0, lastPerson) && expect(Tape.BY) && number(0, lastPerson);
            }
        }

        private boolean number(int least, int most) {
            if (token() != Tape.NUMBER) {
                return fail(MISPLACED);
            }
            int value = tape.number(at);
            if (value < least || value > most) {
                return fail(OUT_OF_RANGE);
            }
            text.addPart(value);
            next();
            return true;
        }

        // Below, open tells how many of ( not ones fears if - are open: it
        // grows wherever these call one another around, and ends at MAX_OPEN.

        private boolean sum(int open) {
            if (!product(open)) {
                return false;
            }
            for (int turn = 0; turn < Tape.MAX_BYTES; turn++) {
                int sign = token();
                if (sign != Tape.PLUS && sign != Tape.MINUS) {
                    break;
                }
                next();
                if (!product(open)) {
                    return false;
                }
                text.put(sign, 0);
            }
            return true;
        }

        private boolean product(int open) {
            if (!one(open)) {
                return false;
            }
            for (int turn = 0; turn < Tape.MAX_BYTES; turn++) {
                int sign = token();
                if (sign != Tape.TIMES && sign != Tape.SLASH) {
                    break;
                }
                next();
                if (!one(open)) {
                    return false;
                }
                text.put(sign, 0);
            }
            return true;
        }

        private boolean one(int open) {
            int kind = token();
            if (kind == Tape.NUMBER || (kind >= Tape.LAND && kind <= Tape.CROWD)) {
                return leaf(kind);
            }
            boolean single = kind == Tape.MINUS || kind == Tape.ONES || kind == Tape.FEARS;
            if (!single && kind != Tape.OPEN && kind != Tape.IF) {
                return fail(MISPLACED);
            }
            if (open >= MAX_OPEN) {
                return fail(TOO_DEEP);
            }
            next();
            if (kind == Tape.OPEN) {
                return sum(open + 1) && expect(Tape.CLOSE);
            }
            if (kind == Tape.IF) {
                return choice(open + 1);
            }
            if (!one(open + 1)) {
                return false;
            }
            text.put(kind == Tape.MINUS ? Tape.NEGATE : kind, 0);
            return true;
        }

        private boolean leaf(int kind) {
            int name = kind - Tape.LAND;
            if (kind == Tape.NUMBER) {
                if (tape.number(at) > MAX_NUMBER) {
                    return fail(OUT_OF_RANGE);
                }
            } else if (name < 0 || name >= NAME_LAWS.length || (NAME_LAWS[name] >> law & 1) == 0) {
                return fail(FOREIGN_NAME);
            }
            text.put(kind, tape.number(at));
            next();
            return true;
        }

        private boolean choice(int open) {
            if (!either(open) || !expect(Tape.THEN)) {
                return false;
            }
            int unless = text.putLeap(Tape.THEN);
            if (!sum(open) || !expect(Tape.ELSE)) {
                return false;
            }
            int over = text.putLeap(Tape.ELSE);
            text.leapsHere(unless, Tape.THEN);
            if (!sum(open) || !expect(Tape.END)) {
                return false;
            }
            text.leapsHere(over, Tape.ELSE);
            return true;
        }

        private boolean either(int open) {
            if (!both(open)) {
                return false;
            }
            for (int turn = 0; turn < Tape.MAX_BYTES && token() == Tape.OR; turn++) {
                next();
                if (!both(open)) {
                    return false;
                }
                text.put(Tape.OR, 0);
            }
            return true;
        }

        private boolean both(int open) {
            if (!ask(open)) {
                return false;
            }
            for (int turn = 0; turn < Tape.MAX_BYTES && token() == Tape.AND; turn++) {
                next();
                if (!ask(open)) {
                    return false;
                }
                text.put(Tape.AND, 0);
            }
            return true;
        }

        private boolean ask(int open) {
            if (token() == Tape.NOT) {
                if (open >= MAX_OPEN) {
                    return fail(TOO_DEEP);
                }
                next();
                if (!ask(open + 1)) {
                    return false;
                }
                text.put(Tape.NOT, 0);
                return true;
            }
            if (!sum(open)) {
                return false;
            }
            int sign = token();
            if (sign < Tape.AT_MOST || sign > Tape.UNLIKE) {
                return fail(MISPLACED);
            }
            next();
            if (!sum(open)) {
                return false;
            }
            text.put(sign, 0);
            return true;
        }
    }

    /** What the laws say of a person, by a text or without. */
    private static final class Laws {
        private static final int[] MOST = {9, 10, 9999, 99};
        /** Eight open ones hold at most five values each, and the outermost sum three. */
        private static final int STACK = 64;
        private static final int NAMES = 10;

        private final Realm realm;
        private final Text[] texts;
        private final int[] names = new int[NAMES];
        private final int[] stack = new int[STACK];

        Laws(Realm realm, Text[] texts) {
            this.realm = realm;
            this.texts = texts;
        }

        /** Of a person as if it were in that land. */
        int rule(int text, int law, Folk folk, int person, int land) {
            if (law < 0 || law >= MOST.length) {
                return 0;
            }
            Text told = text >= 0 && text < realm.texts && text < texts.length ? texts[text] : null;
            int value;
            if (told != null && told.begun(law)) {
                fillNames(folk, person, land);
                value = told.value(law, names, folk, stack);
            } else {
                value = without(law, folk, person, land);
            }
            return Math.max(0, Math.min(MOST[law], value));
        }

        private int without(int law, Folk folk, int person, int land) {
            switch (law) {
                case HUNGERS:
                    return 1;
                case FINDS:
                    return 5 - realm.lands.forestOf(land) / 2;
                case PRICE:
                    return 100 + 20 * folk.get(person, Folk.OUT);
                default:
                    return 10;
            }
        }

        private void fillNames(Folk folk, int person, int land) {
            names[0] = land;
            names[Tape.MONTH - Tape.LAND] = folk.monthNow();
            names[Tape.WHO - Tape.LAND] = person;
            names[Tape.FEAR - Tape.LAND] = folk.fearOf(person);
            names[Tape.FOREST - Tape.LAND] = realm.lands.forestOf(land);
            names[Tape.HUNGER - Tape.LAND] = folk.get(person, Folk.HUNGER);
            names[Tape.OUT - Tape.LAND] = folk.get(person, Folk.OUT);
            names[Tape.GOODS - Tape.LAND] = folk.get(person, Folk.GOODS);
            names[Tape.DEBTS - Tape.LAND] = folk.get(person, Folk.DEBTS);
            names[Tape.CROWD - Tape.LAND] = Integer.bitCount(folk.othersIn(land, person));
        }
    }

    /** What is done to a folk, be it the real one or one that is only foretold. */
    private static final class Deeds {
        private final Realm realm;
        private final Folk folk;
        private final Laws laws;

        Deeds(Realm realm, Folk folk, Laws laws) {
            this.realm = realm;
            this.folk = folk;
            this.laws = laws;
        }

        private boolean alive(int person) {
            return folk.told(person) && folk.get(person, Folk.HOW) != DEAD;
        }

        private boolean outlaw(int person) {
            return folk.told(person) && folk.get(person, Folk.HOW) == OUTLAW;
        }

        /** Whether one that isn't dead is with another that is an outlaw. */
        private boolean meets(int by, int person) {
            return outlaw(person) && alive(by) && person != by
                && folk.get(person, Folk.LAND) == folk.get(by, Folk.LAND);
        }

        int summon(int person, int land) {
            if (!alive(person) || outlaw(person) || !realm.lands.told(land)) {
                return NONE;
            }
            if (folk.get(person, Folk.LAND) == land) {
                folk.set(person, Folk.CALLS, 0);
                folk.write(person, COURT);
                return 0;
            }
            int calls = folk.get(person, Folk.CALLS) + 1;
            if (calls >= MAX_CALLS) {
                castOut(person);
                return 0;
            }
            folk.set(person, Folk.CALLS, calls);
            return calls;
        }

        private void castOut(int person) {
            folk.set(person, Folk.HOW, OUTLAW);
            folk.set(person, Folk.OUT, 0);
            folk.set(person, Folk.HUNGER, 0);
            folk.set(person, Folk.CALLS, 0);
            folk.set(person, Folk.GOODS, 0);
            folk.set(person, Folk.DEBTS, 0);
            folk.write(person, OUTLAWED);
        }

        boolean travel(int person, int land) {
            if (!alive(person) || !realm.lands.joined(folk.get(person, Folk.LAND), land)) {
                return false;
            }
            folk.set(person, Folk.LAND, land);
            return true;
        }

        int nourish(int person, int by) {
            if (!meets(by, person)) {
                return NONE;
            }
            folk.set(person, Folk.HUNGER, 0);
            int calls = folk.get(by, Folk.CALLS);
            if (!outlaw(by)) {
                int land = folk.get(person, Folk.LAND);
                int finds = laws.rule(realm.ruling, FINDS, folk, person, land);
                if (folk.drawByTen() < finds) {
                    calls = Math.min(calls + 1, MAX_CALLS - 1);
                    folk.set(by, Folk.CALLS, calls);
                }
            }
            folk.write(person, FED);
            return calls;
        }

        boolean slay(int person, int by) {
            if (!meets(by, person)) {
                return false;
            }
            folk.set(person, Folk.HOW, DEAD);
            folk.write(person, KILLED);
            if (outlaw(by)) {
                setFree(by);
            }
            return true;
        }

        private void setFree(int person) {
            folk.set(person, Folk.HOW, PARDONED);
            folk.set(person, Folk.OUT, 0);
            folk.set(person, Folk.HUNGER, 0);
        }

        /** The price of an outlaw, if that one can pay it; else NONE. */
        int priceFor(int person, int by) {
            if (!outlaw(person) || !alive(by)) {
                return NONE;
            }
            int land = folk.get(person, Folk.LAND);
            int price = laws.rule(realm.ruling, PRICE, folk, person, land);
            return folk.get(by, Folk.GOODS) >= price ? price : NONE;
        }

        int forgive(int person, int by) {
            int price = priceFor(person, by);
            if (price == NONE) {
                return NONE;
            }
            folk.set(by, Folk.GOODS, folk.get(by, Folk.GOODS) - price);
            setFree(person);
            folk.write(person, FORGIVEN);
            return price;
        }

        /** How many died in it; NONE, if it can't pass. */
        int passMonth() {
            if (folk.monthNow() >= MAX_NUMBER) {
                return NONE;
            }
            int died = 0;
            for (int person = 0; person < folk.count(); person++) {
                if (outlaw(person)) {
                    died += hide(person) ? 0 : 1;
                } else if (alive(person)) {
                    earn(person);
                }
            }
            folk.nextMonth();
            return died;
        }

        private void earn(int person) {
            int land = folk.get(person, Folk.LAND);
            int earns = laws.rule(realm.ruling, EARNS, folk, person, land);
            folk.set(person, Folk.GOODS, Math.min(folk.get(person, Folk.GOODS) + earns, MAX_NUMBER));
        }

        /** Whether an outlaw lives through the month. */
        private boolean hide(int person) {
            int land = folk.get(person, Folk.LAND);
            int hungers = laws.rule(realm.ruling, HUNGERS, folk, person, land);
            int hunger = Math.min(folk.get(person, Folk.HUNGER) + hungers, MAX_HUNGER);
            folk.set(person, Folk.HUNGER, hunger);
            if (hunger == MAX_HUNGER) {
                folk.set(person, Folk.HOW, DEAD);
                folk.write(person, STARVED);
                return false;
            }
            int finds = laws.rule(realm.ruling, FINDS, folk, person, land);
            if (folk.drawByTen() < finds) {
                folk.set(person, Folk.HOW, DEAD);
                folk.write(person, FOUND);
                return false;
            }
            folk.set(person, Folk.OUT, Math.min(folk.get(person, Folk.OUT) + 1, MAX_NUMBER));
            return true;
        }
    }

    /** Searches along the roads: the surest way, and who may have been in the crowd. */
    private static final class Ways {
        private static final int TENTHS = 10;
        private static final int MASKS = 1 << Notes.MAX_CROWD;
        private static final int CELLS = MAX_LANDS * MASKS;

        int upper = 0;
        int lower = 1;
        int gone = 0;
        int may = 0;
        int must = 0;
        private final int[] lives = new int[MAX_LANDS];
        /** For months yet to come and a land: the most of the odds' upper one from there on. */
        private final int[] best = new int[(MAX_WAY + 1) * MAX_LANDS];
        private final int[] way = new int[MAX_WAY];
        /** For a land and the calls one was at (bits): how many ways lead there. */
        private final int[] ends = new int[CELLS];
        private final int[] begins = new int[CELLS];

        /** The caller sees that n is 1 to MAX_WAY and that the person is there. */
        void seekSurest(Realm realm, Laws laws, int person, int n) {
            Lands lands = realm.lands;
            for (int land = 0; land < lands.count && land < MAX_LANDS; land++) {
                lives[land] = TENTHS - laws.rule(realm.ruling, FINDS, realm.folk, person, land);
                best[land] = 1;
            }
            lower = 1;
            for (int months = 1; months <= n && months <= MAX_WAY; months++) {
                lower *= TENTHS;
                for (int land = 0; land < lands.count && land < MAX_LANDS; land++) {
                    best[months * MAX_LANDS + land] = bestFrom(lands, land, months);
                }
            }
            int start = realm.folk.get(person, Folk.LAND);
            upper = bestFrom(lands, start, n);
            follow(lands, start, n);
            int divisor = commonDivisor(upper, lower);
            if (divisor != 0) {
                upper /= divisor;
                lower /= divisor;
            }
        }

        private int bestFrom(Lands lands, int land, int months) {
            int open = lands.near(land) | 1 << land;
            int most = 0;
            for (int to = 0; to < lands.count && to < MAX_LANDS; to++) {
                if ((open >> to & 1) == 1) {
                    most = Math.max(most, lives[to] * bestAfter(to, months - 1));
                }
            }
            return most;
        }

        private int bestAfter(int land, int months) {
            int at = months * MAX_LANDS + land;
            return at >= 0 && at < best.length ? best[at] : 0;
        }

        /** What was lived through so far counts too: behind sure death all lands are alike. */
        private void follow(Lands lands, int start, int n) {
            int here = start;
            int lived = 1;
            for (int i = 0; i < n && i < MAX_WAY; i++) {
                int open = lands.near(here) | 1 << here;
                for (int to = 0; to < lands.count && to < MAX_LANDS; to++) {
                    boolean leads = (open >> to & 1) == 1;
                    if (leads && lived * lives[to] * bestAfter(to, n - 1 - i) == upper) {
                        here = to;
                        break;
                    }
                }
                way[i] = here;
                lived *= here >= 0 && here < MAX_LANDS ? lives[here] : 0;
            }
        }

        int landAt(int i) {
            return i >= 0 && i < MAX_WAY ? way[i] : NO_WAY;
        }

        void countInCrowd(Lands lands, Notes notes, int start, int k) {
            clear(ends);
            int first = start * MASKS + (notes.callLand(0) == start ? 1 : 0);
            if (first >= 0 && first < CELLS) {
                ends[first] = 1;
            }
            for (int call = 1; call < notes.calls && call < Notes.MAX_CROWD; call++) {
                System.arraycopy(ends, 0, begins, 0, CELLS);
                clear(ends);
                for (int land = 0; land < lands.count && land < MAX_LANDS; land++) {
                    comeTo(land, lands.near(land) | 1 << land, call, notes.callLand(call));
                }
            }
            sumUp(k);
        }

        private static void clear(int[] cells) {
            for (int i = 0; i < cells.length; i++) {
                cells[i] = 0;
            }
        }

        private void comeTo(int land, int from, int call, int called) {
            int bit = land == called ? 1 << call : 0;
            for (int old = 0; old < MAX_LANDS; old++) {
                if ((from >> old & 1) == 0) {
                    continue;
                }
                for (int mask = 0; mask < 1 << call && (mask | bit) < MASKS; mask++) {
                    ends[land * MASKS + (mask | bit)] += begins[old * MASKS + mask];
                }
            }
        }

        private void sumUp(int k) {
            gone = 0;
            may = 0;
            must = MASKS - 1;
            for (int cell = 0; cell < CELLS; cell++) {
                int mask = cell % MASKS;
                if (ends[cell] > 0 && Integer.bitCount(mask) == k) {
                    gone += ends[cell];
                    may |= mask;
                    must &= mask;
                }
            }
            must = gone == 0 ? 0 : must;
        }
    }
}
