import java.util.Arrays;
import java.util.NoSuchElementException;

/** A town in which one pays in ladders, by the rung. What each call promises stands in ../shared/DOC.md. */
public final class RungMoney {
    public static final int NONE = -1;

    private static final int MOST_MEN = 6;
    private static final int MOST_LADDERS = 16;
    private static final int MOST_RUNGS = 32;
    private static final int MOST_WINTERS = 99;
    private static final int MOST_DRAWN = 30;
    private static final int MOST_ASKED = 500;
    private static final int MOST_TESTED = 3;
    private static final int ODDS_WINTERS = 5;
    private static final int IMAGES = 2;
    private static final int CLIMB_GONE = -2;
    private static final int STRIKE_SAME = -2;
    private static final int LEDGER_UNREAD = -1000;

    private final Tape tape;
    private final Reader reader;
    private final TownReader townReader;
    private final Town town;
    private final Town spare;
    private final Sentence sentence;
    private final Sentence spareSentence;
    private final Ledger ledger;
    private final Past past;
    private final Purse purse;
    private final Town[] keptTowns;
    private final Sentence[] keptSentences;
    private final boolean[] kept;
    private final int[] toldLast;
    private int faultKind;
    private int givenBits;
    private int cutPlace;
    private int woodBits;

    public RungMoney() {
        tape = new Tape();
        reader = new Reader(tape);
        townReader = new TownReader(reader);
        town = new Town();
        spare = new Town();
        sentence = new Sentence();
        spareSentence = new Sentence();
        ledger = new Ledger();
        past = new Past();
        purse = new Purse();
        keptTowns = new Town[IMAGES];
        keptSentences = new Sentence[IMAGES];
        for (int k = 0; k < IMAGES; k++) {
            keptTowns[k] = new Town();
            keptSentences[k] = new Sentence();
        }
        kept = new boolean[IMAGES];
        toldLast = new int[Ledger.TOLD];
        Arrays.fill(toldLast, NONE);
        givenBits = NONE;
        cutPlace = NONE;
        woodBits = NONE;
    }

    // ---- the tape ----

    public int feed(int a, int b, int c, int d, int e) {
        if (!tape.hasRoom()) {
            return NONE;
        }
        tape.add(a);
        tape.add(b);
        tape.add(c);
        tape.add(d);
        tape.add(e);
        return tape.size;
    }

    public boolean end(int n) {
        if (n < 0 || n > tape.size) {
            return false;
        }
        tape.size = n;
        return true;
    }

    // ---- the town, and what is so ----

    public int town() {
        boolean well = townReader.read(spare);
        tape.size = 0;
        faultKind = reader.fault;
        if (!well) {
            return -1 - reader.place;
        }
        town.copy(spare);
        sentence.forget();
        past.forget();
        return townReader.lines;
    }

    public int fault() {
        return faultKind;
    }

    public int ladder(int l, int what) throws NoSuchElementException {
        if (!town.ladders.has(l) || what < Ladders.OWNER || what > Ladders.HANDS) {
            throw new NoSuchElementException();
        }
        return town.ladders.measure(l, what);
    }

    public int rung(int l, int k) {
        return town.ladders.kind(l, k);
    }

    public int man(int m, int what) {
        if (!town.hasMan(m)) {
            return NONE;
        }
        switch (what) {
            case 0:
                return town.ladders.bitsOf(m);
            case 1:
                return town.ladders.sumOf(m, Ladders.LOOKS);
            case 2:
                return town.ladders.sumOf(m, Ladders.WORTH);
            case 3:
                return town.debts.owes(m);
            case 4:
                return town.debts.owed(m);
            case 5:
                return town.ladders.highestOf(m);
            case 6:
                return town.payments[m];
            default:
                return NONE;
        }
    }

    public int debt(int m, int o) {
        return town.hasMan(m) && town.hasMan(o) && m != o ? town.debts.of(m, o) : NONE;
    }

    public int now(int what) {
        switch (what) {
            case 0:
                return town.winters;
            case 1:
                return town.ladders.bitsThere();
            case 2:
                return town.mint;
            case 3:
                return town.debts.all();
            case 4:
                return town.ladders.sum(Ladders.LOOKS);
            case 5:
                return town.ladders.sum(Ladders.WORTH);
            case 6:
                return town.ladders.sum(Ladders.LOOKS) - town.ladders.sum(Ladders.WORTH);
            case 7:
                return town.cuts;
            default:
                return NONE;
        }
    }

    public int count(int what) {
        switch (what) {
            case 0:
                return town.men;
            case 1:
                return town.ladders.size;
            case 2:
                return town.rot;
            case 3:
                return tape.size;
            default:
                return NONE;
        }
    }

    // ---- acts ----

    public int pay(int m, int l, int o) {
        past.hold(town);
        return keepIfDone(town.payWith(m, l, o));
    }

    public int saw(int l, int k) {
        past.hold(town);
        return keepIfDone(town.sawAbove(l, k));
    }

    public int splice(int l, int on) {
        past.hold(town);
        return keepIfDone(town.spliceOnto(l, on));
    }

    public int climb(int m, int l) {
        past.hold(town);
        int high = town.climbUp(m, l);
        if (high >= 0) {
            past.keep();
        }
        return high;
    }

    public int burn(int l) {
        past.hold(town);
        return keepIfDone(town.burnDown(l));
    }

    public int paint(int l, int k) {
        past.hold(town);
        return keepIfDone(town.paintRung(l, k));
    }

    public int taxes() {
        past.hold(town);
        return keepIfDone(town.raiseTaxes());
    }

    public int winter(int seed) {
        past.hold(town);
        return keepIfDone(town.passWinter(seed));
    }

    public int strike() {
        spare.debts.strikeFrom(town.debts);
        if (spare.debts.same(town.debts)) {
            return STRIKE_SAME;
        }
        int less = town.debts.all() - spare.debts.all();
        past.hold(town);
        past.keep();
        town.debts.copy(spare.debts);
        return less;
    }

    public int drawn(int n, int seed) {
        if (n < 1 || n > MOST_DRAWN) {
            return NONE;
        }
        past.hold(town);
        int passed = town.passWinters(n, seed);
        if (passed > 0) {
            past.keep();
        }
        return passed;
    }

    public int undo() {
        return past.takeBack(town) ? past.size : NONE;
    }

    private int keepIfDone(int why) {
        if (why == 0) {
            past.keep();
        }
        return why;
    }

    // ---- questions ----

    public int price(int m, int n) {
        if (!town.hasMan(m) || n < 1 || n > MOST_ASKED) {
            return NONE;
        }
        purse.fillByLooks(town.ladders, m);
        int whole = purse.just(n);
        boolean isCut = whole == Purse.NEVER;
        int choice = isCut ? purse.atLeast(n) : whole;
        if (choice == Purse.NEVER) {
            return NONE;
        }
        givenBits = choice & Purse.BITS;
        cutPlace = isCut ? town.ladders.cutFor(givenBits, n) : NONE;
        return (isCut ? 100 : 0) + choice / Purse.UNIT;
    }

    public int given() {
        return givenBits;
    }

    public int cut() {
        return cutPlace;
    }

    public int height(int h) {
        return h < 1 || h > MOST_ASKED ? NONE : town.ladders.fewestFor(h);
    }

    public int bear() {
        return town.ladders.bitsBearing();
    }

    public int test(int n, int what) throws NoSuchElementException {
        int looking = town.ladders.sum(Ladders.LOOKS);
        if (n < 1 || n > MOST_TESTED || what < 0 || what > 1 || looking < n) {
            throw new NoSuchElementException();
        }
        int sound = town.ladders.sum(Ladders.WORTH);
        int ways = waysToDraw(n, looking);
        int found = ways - waysToDraw(n, sound);
        int shared = greatestDivisor(found, ways);
        return (what == 0 ? found : ways) / Math.max(shared, 1);
    }

    private static int waysToDraw(int n, int rungs) {
        int ways = 1;
        for (int i = 0; i < n; i++) {
            ways *= Math.max(rungs - i, 0);
        }
        return ways;
    }

    private static int greatestDivisor(int a, int b) {
        int greater = a;
        int less = b;
        // Euclid's steps on ints are fewer than fifty
        for (int i = 0; i < 64 && less != 0; i++) {
            int rest = greater % less;
            greater = less;
            less = rest;
        }
        return greater;
    }

    public int suspect() {
        return town.ladders.mostPainted();
    }

    public int fire(int m, int n) {
        if (!town.hasMan(m) || n < 1 || n > MOST_ASKED) {
            return NONE;
        }
        purse.fillByWood(town.ladders, m);
        int choice = purse.atLeast(n);
        if (choice == Purse.NEVER) {
            return NONE;
        }
        woodBits = choice & Purse.BITS;
        return choice / Purse.UNIT;
    }

    public int wood() {
        return woodBits;
    }

    public int broke() {
        return town.brokeBy(Ladders.LOOKS);
    }

    public int bubbles() {
        return town.brokeBy(Ladders.WORTH) & ~town.brokeBy(Ladders.LOOKS);
    }

    public int forgers() {
        int numbers = tape.size;
        tape.size = 0;
        if (numbers < 1 || numbers > MOST_LADDERS) {
            return NONE;
        }
        int hands = town.allMen();
        for (int i = 0; i < numbers; i++) {
            int l = tape.bytes[i];
            if (!town.ladders.has(l)) {
                return NONE;
            }
            hands &= town.ladders.measure(l, Ladders.HANDS);
        }
        return hands;
    }

    public int struck() {
        return town.debts.allStruck();
    }

    public int stands(int m) throws NoSuchElementException {
        if (!town.hasMan(m)) {
            throw new NoSuchElementException();
        }
        return town.debts.balance(m);
    }

    public int cheapest(int h) {
        return h < 1 || h > MOST_RUNGS ? NONE : town.ladders.leastLook(h);
    }

    public int odds(int m, int w, int n, int seed) {
        if (!town.hasMan(m) || w < 0 || w > MOST_ASKED || n < 1 || n > MOST_DRAWN) {
            return NONE;
        }
        int times = 0;
        for (int i = 0; i < n; i++) {
            spare.copy(town);
            spare.passWinters(ODDS_WINTERS, seed + i);
            if (spare.ladders.sumOf(m, Ladders.LOOKS) >= w) {
                times++;
            }
        }
        return times;
    }

    // ---- ledgers and sentences ----

    public int ledger(int lives) {
        if (lives != 0 && lives != 1) {
            return LEDGER_UNREAD;
        }
        boolean well = ledger.read(reader, town);
        tape.size = 0;
        faultKind = reader.fault;
        if (!well) {
            return -2 - reader.place;
        }
        spare.copy(town);
        ledger.live(spare);
        toldLast[0] = ledger.why;
        toldLast[1] = ledger.done;
        toldLast[2] = spare.debts.all();
        toldLast[3] = spare.ladders.bitsThere();
        if (lives == 1) {
            past.hold(town);
            past.keep();
            town.copy(spare);
        }
        return ledger.why == 0 ? NONE : ledger.done;
    }

    public int told(int what) {
        return what >= 0 && what < Ledger.TOLD ? toldLast[what] : NONE;
    }

    public int sentence() {
        boolean well = spareSentence.read(reader, town);
        tape.size = 0;
        faultKind = reader.fault;
        if (!well) {
            return -1 - reader.place;
        }
        sentence.copy(spareSentence);
        return sentence.ones;
    }

    public int said(int k) {
        if (k < NONE || !sentence.isTold()) {
            return NONE;
        }
        int which = sentence.bits(town.ladders);
        if (k == NONE) {
            return Integer.bitCount(which);
        }
        int ahead = 0;
        for (int l = 0; l < MOST_LADDERS; l++) {
            if ((which >> l & 1) == 1) {
                if (ahead == k) {
                    return l;
                }
                ahead++;
            }
        }
        return NONE;
    }

    // ---- images ----

    public boolean image(int k) {
        if (k < 0 || k >= IMAGES) {
            return false;
        }
        keptTowns[k].copy(town);
        keptSentences[k].copy(sentence);
        kept[k] = true;
        return true;
    }

    public boolean restore(int k) {
        if (k < 0 || k >= IMAGES || !kept[k]) {
            return false;
        }
        town.copy(keptTowns[k]);
        sentence.copy(keptSentences[k]);
        past.forget();
        return true;
    }

    /** The bytes that have come and are not read yet. */
    private static final class Tape {
        static final int MOST = 940;
        static final int FED = 20;
        final int[] bytes = new int[MOST];
        int size;

        boolean hasRoom() {
            return size + FED <= MOST;
        }

        void add(int number) {
            for (int shift = 24; shift >= 0 && size < MOST; shift -= 8) {
                bytes[size] = number >>> shift & 255;
                size++;
            }
        }
    }

    /** The words of all texts that are no names; of a ledger's acts also what numbers come behind them. */
    private enum Key {
        OTHER("", NONE, NONE, NONE),
        MAN("man", NONE, NONE, NONE),
        LADDER("ladder", NONE, NONE, NONE),
        DEBT("debt", NONE, NONE, NONE),
        ROT("rot", NONE, NONE, NONE),
        PAYS("pays", 0, 15, NONE),
        SAWS("saws", 10, 15, 31),
        SPLICES("splices", 20, 15, 15),
        CLIMBS("climbs", 30, 15, NONE),
        BURNS("burns", 40, 15, NONE),
        PAINTS("paints", 50, 15, 31),
        TAXES("taxes", 60, NONE, NONE),
        WINTER("winter", 70, 99, NONE),
        OR("or", NONE, NONE, NONE),
        AND("and", NONE, NONE, NONE),
        NOT("not", NONE, NONE, NONE),
        GONE("gone", NONE, NONE, NONE),
        BEARS("bears", NONE, NONE, NONE),
        FALSE("false", NONE, NONE, NONE),
        OF("of", NONE, NONE, NONE),
        LONG("long", NONE, NONE, NONE),
        LOOKS("looks", NONE, NONE, NONE),
        WORTH("worth", NONE, NONE, NONE),
        NUMBER("number", NONE, NONE, NONE);

        private static final Key[] ALL = values();

        /** The word as Reader.word tells it. */
        final long code;
        /** What is added to why such an act is WRONG. */
        final int sort;
        /** The greatest number that may come first behind the word, and second. */
        final int first;
        final int second;

        Key(String text, int sort, int first, int second) {
            long letters = 0;
            for (int i = 0; i < text.length(); i++) {
                letters = letters * Reader.LETTERS + (text.charAt(i) - 'a' + 1);
            }
            this.code = letters;
            this.sort = sort;
            this.first = first;
            this.second = second;
        }

        static Key find(long word) {
            for (int i = 0; i < ALL.length; i++) {
                if (ALL[i].code == word) {
                    return ALL[i];
                }
            }
            return OTHER;
        }

        boolean needsMan() {
            return this == PAYS || this == CLIMBS;
        }

        boolean isMeasure() {
            return this == LONG || this == LOOKS || this == WORTH || this == NUMBER;
        }

        boolean isPlain() {
            return this == GONE || this == BEARS || this == FALSE;
        }
    }

    /** Reads the tape token by token, and keeps the fault of a text. */
    private static final class Reader {
        static final int END = 0;
        static final int WORD = 1;
        static final int NUMBER = 2;
        static final int SIGN = 3;
        static final int BAD = 4;
        static final int UNFIT = 1;
        static final int RANGE = 2;
        static final int NAMING = 3;
        static final int MANY = 4;
        static final long LETTERS = 32;
        static final int WORD_MOST = 12;
        static final int DIGITS_MOST = 3;
        static final int NAME_MOST = 7;

        private final Tape tape;
        private int most;
        private int at;
        private int next;
        int kind;
        /** The letters of a WORD as digits 1 to 26, the first the highest; 0 for other tokens. */
        long word;
        int number;
        private int sign;
        /** The number, or the man's, that was taken last. */
        int taken;
        int fault;
        int place;

        Reader(Tape tape) {
            this.tape = tape;
        }

        void open(int mostBytes) {
            most = mostBytes;
            next = 0;
            fault = 0;
            place = 0;
            step();
        }

        void step() {
            while (next < tape.size && isBlank(tape.bytes[next])) {
                next++;
            }
            at = next;
            word = 0;
            number = 0;
            sign = 0;
            if (next >= most && tape.size > most) {
                at = most;
                kind = BAD;
            } else if (next >= tape.size) {
                kind = END;
            } else {
                readRun();
                if (next == at) {
                    sign = tape.bytes[next];
                    kind = SIGN;
                    next++;
                }
            }
        }

        /** Letters and digits as far as they go, of which a WORD or a NUMBER may be. */
        private void readRun() {
            int letters = 0;
            int digits = 0;
            boolean goesOn = true;
            while (goesOn && next < tape.size) {
                int c = tape.bytes[next];
                if (c >= 'a' && c <= 'z') {
                    word = word * LETTERS + (c - 'a' + 1);
                    letters++;
                    next++;
                } else if (c >= '0' && c <= '9') {
                    number = number * 10 + (c - '0');
                    digits++;
                    next++;
                } else {
                    goesOn = false;
                }
            }
            if (digits == 0 && letters <= WORD_MOST) {
                kind = WORD;
            } else if (letters == 0 && digits <= DIGITS_MOST) {
                kind = NUMBER;
            } else {
                kind = BAD;
                word = 0;
            }
        }

        private static boolean isBlank(int c) {
            return c == 32 || c == 10;
        }

        /** The fault is at this token: false, for the caller to hand on. */
        boolean fail(int kindOfFault) {
            fault = kindOfFault;
            place = at;
            return false;
        }

        Key key() {
            return Key.find(word);
        }

        boolean isSign(int c) {
            return kind == SIGN && sign == c;
        }

        int length() {
            return next - at;
        }

        /** Byte k of this token. */
        int letter(int k) {
            return k >= 0 && k < tape.size - at ? tape.bytes[at + k] : 0;
        }

        boolean takeSign(int c) {
            if (!isSign(c)) {
                return fail(UNFIT);
            }
            step();
            return true;
        }

        boolean takeCompare() {
            if (!isSign('<') && !isSign('=') && !isSign('>')) {
                return fail(UNFIT);
            }
            taken = sign;
            step();
            return true;
        }

        boolean takeNumber(int least, int greatest) {
            if (kind != NUMBER) {
                return fail(UNFIT);
            }
            if (number < least || number > greatest) {
                return fail(RANGE);
            }
            taken = number;
            step();
            return true;
        }

        /** Whether this token is the name of a man of the town, who is taken; the token stays. */
        boolean seesMan(Town town) {
            if (kind != WORD || Key.find(word) != Key.OTHER) {
                return fail(UNFIT);
            }
            taken = town.manNamed(word);
            return taken != NONE || fail(NAMING);
        }

        boolean takeMan(Town town) {
            if (!seesMan(town)) {
                return false;
            }
            step();
            return true;
        }
    }

    /** Reads the text of a TOWN. */
    private static final class TownReader {
        private static final int MOST_BYTES = 900;
        private static final int MOST_DEBTS = 20;
        private static final int MOST_OWED = 250;
        private static final int MOST_ROT = 12;

        private final Reader reader;
        private int debts;
        private boolean rotTold;
        int lines;

        TownReader(Reader reader) {
            this.reader = reader;
        }

        boolean read(Town into) {
            into.clear();
            debts = 0;
            rotTold = false;
            reader.open(MOST_BYTES);
            for (lines = 0; lines < MOST_BYTES && reader.kind != Reader.END; lines++) {
                if (!readLine(into) || !reader.takeSign(';')) {
                    return false;
                }
            }
            return true;
        }

        private boolean readLine(Town into) {
            Key key = reader.key();
            if (key == Key.MAN) {
                return readMan(into);
            }
            if (key == Key.LADDER) {
                return readLadder(into);
            }
            if (key == Key.DEBT) {
                return readDebt(into);
            }
            if (key == Key.ROT) {
                return readRot(into);
            }
            return reader.fail(Reader.UNFIT);
        }

        private boolean readMan(Town into) {
            if (into.men >= MOST_MEN) {
                return reader.fail(Reader.MANY);
            }
            reader.step();
            if (reader.kind != Reader.WORD || reader.key() != Key.OTHER) {
                return reader.fail(Reader.UNFIT);
            }
            if (reader.length() > Reader.NAME_MOST || into.manNamed(reader.word) != NONE) {
                return reader.fail(Reader.NAMING);
            }
            into.addMan(reader.word);
            reader.step();
            return true;
        }

        private boolean readLadder(Town into) {
            if (into.ladders.size >= MOST_LADDERS) {
                return reader.fail(Reader.MANY);
            }
            reader.step();
            return reader.takeMan(into) && readRungs(into.ladders, reader.taken);
        }

        private boolean readRungs(Ladders ladders, int m) {
            if (reader.kind != Reader.WORD) {
                return reader.fail(Reader.UNFIT);
            }
            int sound = 0;
            int painted = 0;
            for (int k = 0; k < reader.length(); k++) {
                int c = reader.letter(k);
                if (c == 's') {
                    sound |= 1 << k;
                } else if (c == 'p') {
                    painted |= 1 << k;
                } else if (c != 'r') {
                    return reader.fail(Reader.NAMING);
                }
            }
            ladders.add(m, reader.length(), sound, painted, 1 << m);
            reader.step();
            return true;
        }

        private boolean readDebt(Town into) {
            if (debts >= MOST_DEBTS) {
                return reader.fail(Reader.MANY);
            }
            debts++;
            reader.step();
            if (!reader.takeMan(into)) {
                return false;
            }
            int m = reader.taken;
            if (!reader.seesMan(into)) {
                return false;
            }
            int o = reader.taken;
            // a debt that was told is 1 at least
            if (m == o || into.debts.of(m, o) != 0) {
                return reader.fail(Reader.NAMING);
            }
            reader.step();
            if (!reader.takeNumber(1, MOST_OWED)) {
                return false;
            }
            into.debts.put(m, o, reader.taken);
            return true;
        }

        private boolean readRot(Town into) {
            if (rotTold) {
                return reader.fail(Reader.NAMING);
            }
            rotTold = true;
            reader.step();
            if (!reader.takeNumber(0, MOST_ROT)) {
                return false;
            }
            into.rot = reader.taken;
            return true;
        }
    }

    /** All ladders: of each its rungs as bits, sound ones and painted ones; the others of its length are rotten. */
    private static final class Ladders {
        static final int OWNER = 0;
        static final int LENGTH = 1;
        static final int LOOKS = 2;
        static final int WORTH = 3;
        static final int REACH = 4;
        static final int HANDS = 5;

        /** How many there are, gone ones too. */
        int size;
        private final int[] owners = new int[MOST_LADDERS];
        private final int[] lengths = new int[MOST_LADDERS];
        private final int[] sounds = new int[MOST_LADDERS];
        private final int[] paints = new int[MOST_LADDERS];
        private final int[] hands = new int[MOST_LADDERS];

        void copy(Ladders from) {
            size = from.size;
            System.arraycopy(from.owners, 0, owners, 0, MOST_LADDERS);
            System.arraycopy(from.lengths, 0, lengths, 0, MOST_LADDERS);
            System.arraycopy(from.sounds, 0, sounds, 0, MOST_LADDERS);
            System.arraycopy(from.paints, 0, paints, 0, MOST_LADDERS);
            System.arraycopy(from.hands, 0, hands, 0, MOST_LADDERS);
        }

        boolean has(int l) {
            return l >= 0 && l < size;
        }

        boolean isThere(int l) {
            return has(l) && owners[l] != NONE;
        }

        int measure(int l, int what) {
            if (!has(l)) {
                return NONE;
            }
            switch (what) {
                case OWNER:
                    return owners[l];
                case LENGTH:
                    return lengths[l];
                case LOOKS:
                    return Integer.bitCount(sounds[l] | paints[l]);
                case WORTH:
                    return Integer.bitCount(sounds[l]);
                case REACH:
                    return reach(l);
                default:
                    return hands[l];
            }
        }

        private int reach(int l) {
            int high = 0;
            while (high < lengths[l] && (sounds[l] >>> high & 1) == 1) {
                high++;
            }
            return high;
        }

        /** Of a rung: 0 sound, 1 rotten, 2 painted. */
        int kind(int l, int k) {
            if (!has(l) || k < 0 || k >= lengths[l]) {
                return NONE;
            }
            if ((sounds[l] >>> k & 1) == 1) {
                return 0;
            }
            return (paints[l] >>> k & 1) == 1 ? 2 : 1;
        }

        boolean bears(int l) {
            return isThere(l) && measure(l, WORTH) == lengths[l];
        }

        boolean hasPaint(int l) {
            return has(l) && paints[l] != 0;
        }

        int sum(int what) {
            int sum = 0;
            for (int l = 0; l < size; l++) {
                sum += measure(l, what);
            }
            return sum;
        }

        int sumOf(int m, int what) {
            int sum = 0;
            for (int l = 0; l < size; l++) {
                if (owners[l] == m) {
                    sum += measure(l, what);
                }
            }
            return sum;
        }

        int highestOf(int m) {
            int highest = 0;
            for (int l = 0; l < size; l++) {
                if (owners[l] == m) {
                    highest = Math.max(highest, reach(l));
                }
            }
            return highest;
        }

        int bitsOf(int m) {
            int bits = 0;
            for (int l = 0; l < size; l++) {
                if (owners[l] == m) {
                    bits |= 1 << l;
                }
            }
            return bits;
        }

        int bitsThere() {
            return allBits() & ~bitsOf(NONE);
        }

        int allBits() {
            return (1 << size) - 1;
        }

        int bitsBearing() {
            int bits = 0;
            for (int l = 0; l < size; l++) {
                if (bears(l)) {
                    bits |= 1 << l;
                }
            }
            return bits;
        }

        /** The fewest ladders that bear and come to a height: the longest first. */
        int fewestFor(int h) {
            int high = 0;
            int used = 0;
            for (int length = MOST_RUNGS; length > 0; length--) {
                for (int l = 0; l < size; l++) {
                    if (lengths[l] == length && bears(l)) {
                        high += length;
                        used++;
                        if (high >= h) {
                            return used;
                        }
                    }
                }
            }
            return NONE;
        }

        int leastLook(int h) {
            int least = NONE;
            for (int l = 0; l < size; l++) {
                if (bears(l) && lengths[l] >= h) {
                    int looks = measure(l, LOOKS);
                    least = least == NONE ? looks : Math.min(least, looks);
                }
            }
            return least;
        }

        int mostPainted() {
            int found = NONE;
            int part = 0;
            int whole = 1;
            for (int l = 0; l < size; l++) {
                int painted = Integer.bitCount(paints[l]);
                int looks = measure(l, LOOKS);
                if (painted * whole > part * looks) {
                    found = l;
                    part = painted;
                    whole = looks;
                }
            }
            return found;
        }

        /**
         * Where one of some ladders is cut so that they look just n. They are the fewest that look as much, so none of
         * them can be spared and each may be the one that is cut: it is the first.
         */
        int cutFor(int bits, int n) {
            int first = NONE;
            int rest = n;
            for (int l = 0; l < size; l++) {
                if ((bits >> l & 1) == 1) {
                    if (first == NONE) {
                        first = l;
                    } else {
                        rest -= measure(l, LOOKS);
                    }
                }
            }
            return first == NONE ? NONE : first * 100 + rungsThatLook(first, rest);
        }

        private int rungsThatLook(int l, int looks) {
            int seen = 0;
            int k = 0;
            while (k < lengths[l] && seen < looks) {
                seen += (sounds[l] | paints[l]) >>> k & 1;
                k++;
            }
            return k;
        }

        void add(int m, int length, int sound, int painted, int had) {
            if (size < MOST_LADDERS) {
                owners[size] = m;
                lengths[size] = length;
                sounds[size] = sound;
                paints[size] = painted;
                hands[size] = had;
                size++;
            }
        }

        void vanish(int l) {
            if (has(l)) {
                owners[l] = NONE;
                lengths[l] = 0;
                sounds[l] = 0;
                paints[l] = 0;
            }
        }

        void give(int l, int o) {
            if (has(l)) {
                owners[l] = o;
                hands[l] |= 1 << o;
            }
        }

        /** k is above 0 and below the length. */
        void split(int l, int k) {
            if (has(l)) {
                add(owners[l], lengths[l] - k, sounds[l] >>> k, paints[l] >>> k, hands[l]);
                shorten(l, k);
            }
        }

        private void shorten(int l, int k) {
            int left = (1 << k) - 1;
            lengths[l] = k;
            sounds[l] &= left;
            paints[l] &= left;
        }

        void join(int l, int above) {
            if (has(l) && has(above)) {
                sounds[l] |= sounds[above] << lengths[l];
                paints[l] |= paints[above] << lengths[l];
                lengths[l] += lengths[above];
                hands[l] |= hands[above];
                vanish(above);
            }
        }

        void loseTop(int l) {
            if (has(l)) {
                if (lengths[l] > 1) {
                    shorten(l, lengths[l] - 1);
                } else {
                    vanish(l);
                }
            }
        }

        void putPaint(int l, int k) {
            if (has(l)) {
                paints[l] |= 1 << k;
            }
        }

        void losePaint(int l, int k) {
            if (has(l)) {
                paints[l] &= ~(1 << k);
            }
        }

        /** Sound rungs rot by draws that go on from x: the x behind the last of them. */
        int rotBy(int seed, int rot) {
            int x = seed;
            for (int l = 0; l < size; l++) {
                for (int k = 0; k < lengths[l]; k++) {
                    if ((sounds[l] >>> k & 1) == 1) {
                        x = x * 1103515245 + 12345;
                        if ((x >>> 8) % 12 < rot) {
                            sounds[l] &= ~(1 << k);
                        }
                    }
                }
            }
            return x;
        }
    }

    /** What each man owes each other. */
    private static final class Debts {
        private final int[] rows = new int[MOST_MEN * MOST_MEN];
        private final int[] balances = new int[MOST_MEN];

        void clear() {
            Arrays.fill(rows, 0);
        }

        void copy(Debts from) {
            System.arraycopy(from.rows, 0, rows, 0, rows.length);
        }

        boolean same(Debts other) {
            for (int i = 0; i < rows.length; i++) {
                if (rows[i] != other.rows[i]) {
                    return false;
                }
            }
            return true;
        }

        private static boolean isPair(int m, int o) {
            return m >= 0 && m < MOST_MEN && o >= 0 && o < MOST_MEN;
        }

        int of(int m, int o) {
            return isPair(m, o) ? rows[m * MOST_MEN + o] : 0;
        }

        void put(int m, int o, int n) {
            if (isPair(m, o)) {
                rows[m * MOST_MEN + o] = n;
            }
        }

        int owes(int m) {
            int sum = 0;
            for (int o = 0; o < MOST_MEN; o++) {
                sum += of(m, o);
            }
            return sum;
        }

        int owed(int m) {
            return owedWithout(m, 0);
        }

        /** What is owed to a man by all but some, told as bits. */
        int owedWithout(int m, int some) {
            int sum = 0;
            for (int o = 0; o < MOST_MEN; o++) {
                if ((some >> o & 1) == 0) {
                    sum += of(o, m);
                }
            }
            return sum;
        }

        int balance(int m) {
            return owed(m) - owes(m);
        }

        int all() {
            int sum = 0;
            for (int i = 0; i < rows.length; i++) {
                sum += rows[i];
            }
            return sum;
        }

        int allStruck() {
            int sum = 0;
            for (int m = 0; m < MOST_MEN; m++) {
                sum += Math.max(balance(m), 0);
            }
            return sum;
        }

        void strikeFrom(Debts old) {
            clear();
            for (int m = 0; m < MOST_MEN; m++) {
                balances[m] = old.balance(m);
            }
            for (int m = 0; m < MOST_MEN; m++) {
                for (int o = 0; o < MOST_MEN; o++) {
                    if (balances[m] < 0 && balances[o] > 0) {
                        int n = Math.min(-balances[m], balances[o]);
                        put(m, o, n);
                        balances[m] += n;
                        balances[o] -= n;
                    }
                }
            }
        }
    }

    /** A TOWN and all that is so in it. Its acts answer 0, why not, or NONE if there are no such ones. */
    private static final class Town {
        int men;
        private final long[] names = new long[MOST_MEN];
        final Ladders ladders = new Ladders();
        final Debts debts = new Debts();
        final int[] payments = new int[MOST_MEN];
        int rot = 1;
        int winters;
        int mint;
        int cuts;

        void clear() {
            men = 0;
            ladders.size = 0;
            debts.clear();
            Arrays.fill(payments, 0);
            rot = 1;
            winters = 0;
            mint = 0;
            cuts = 0;
        }

        void copy(Town from) {
            men = from.men;
            System.arraycopy(from.names, 0, names, 0, MOST_MEN);
            ladders.copy(from.ladders);
            debts.copy(from.debts);
            System.arraycopy(from.payments, 0, payments, 0, MOST_MEN);
            rot = from.rot;
            winters = from.winters;
            mint = from.mint;
            cuts = from.cuts;
        }

        void addMan(long name) {
            if (men < MOST_MEN) {
                names[men] = name;
                men++;
            }
        }

        boolean hasMan(int m) {
            return m >= 0 && m < men;
        }

        int manNamed(long name) {
            for (int m = 0; m < men; m++) {
                if (names[m] == name) {
                    return m;
                }
            }
            return NONE;
        }

        int allMen() {
            return (1 << men) - 1;
        }

        int payWith(int m, int l, int o) {
            if (!hasMan(m) || !hasMan(o) || m == o || !ladders.has(l)) {
                return NONE;
            }
            int owed = debts.of(m, o);
            int looks = ladders.measure(l, Ladders.LOOKS);
            if (ladders.measure(l, Ladders.OWNER) != m) {
                return 1;
            }
            if (owed == 0) {
                return 2;
            }
            if (looks > owed) {
                return 3;
            }
            ladders.give(l, o);
            debts.put(m, o, owed - looks);
            payments[m]++;
            return 0;
        }

        int sawAbove(int l, int k) {
            if (!ladders.has(l) || k < 0 || k >= MOST_RUNGS) {
                return NONE;
            }
            if (!ladders.isThere(l)) {
                return 1;
            }
            if (k == 0 || k >= ladders.measure(l, Ladders.LENGTH)) {
                return 2;
            }
            if (ladders.size >= MOST_LADDERS) {
                return 3;
            }
            ladders.split(l, k);
            cuts++;
            return 0;
        }

        int spliceOnto(int l, int above) {
            if (!ladders.has(l) || !ladders.has(above)) {
                return NONE;
            }
            if (!ladders.isThere(l) || !ladders.isThere(above) || l == above) {
                return 1;
            }
            if (ladders.measure(l, Ladders.OWNER) != ladders.measure(above, Ladders.OWNER)) {
                return 2;
            }
            if (ladders.measure(l, Ladders.LENGTH) + ladders.measure(above, Ladders.LENGTH) > MOST_RUNGS) {
                return 3;
            }
            ladders.join(l, above);
            return 0;
        }

        /** How high, or CLIMB_GONE. */
        int climbUp(int m, int l) {
            if (!hasMan(m) || !ladders.has(l)) {
                return NONE;
            }
            if (!ladders.isThere(l)) {
                return CLIMB_GONE;
            }
            int high = ladders.measure(l, Ladders.REACH);
            if (ladders.kind(l, high) == 2) {
                ladders.losePaint(l, high);
            }
            return high;
        }

        int burnDown(int l) {
            if (!ladders.has(l)) {
                return NONE;
            }
            if (!ladders.isThere(l)) {
                return 1;
            }
            ladders.vanish(l);
            return 0;
        }

        int paintRung(int l, int k) {
            if (!ladders.has(l) || k < 0 || k >= MOST_RUNGS) {
                return NONE;
            }
            if (!ladders.isThere(l)) {
                return 1;
            }
            int kind = ladders.kind(l, k);
            if (kind == NONE) {
                return 2;
            }
            if (kind != 1) {
                return 3;
            }
            ladders.putPaint(l, k);
            return 0;
        }

        int raiseTaxes() {
            int taxed = 0;
            for (int l = 0; l < ladders.size; l++) {
                if (ladders.isThere(l)) {
                    ladders.loseTop(l);
                    taxed++;
                }
            }
            mint += taxed;
            return taxed == 0 ? 1 : 0;
        }

        int passWinter(int seed) {
            return passWinters(1, seed) == 1 ? 0 : 1;
        }

        /** How many winters went by. */
        int passWinters(int n, int seed) {
            int x = seed;
            int passed = 0;
            while (passed < n && winters < MOST_WINTERS) {
                x = ladders.rotBy(x, rot);
                winters++;
                passed++;
            }
            return passed;
        }

        /** Who breaks, if ladders count as they look or are worth. */
        int brokeBy(int what) {
            int broke = 0;
            // each round but the last breaks a man
            for (int round = 0; round < MOST_MEN; round++) {
                int broken = broke;
                for (int m = 0; m < men; m++) {
                    if (debts.owes(m) > ladders.sumOf(m, what) + debts.owedWithout(m, broke)) {
                        broken |= 1 << m;
                    }
                }
                broke = broken;
            }
            return broke;
        }
    }

    /** The towns ahead of the latest acts, in a ring with one place more than are kept: it is free for the next. */
    private static final class Past {
        private static final int MOST = 8;
        private static final int PLACES = MOST + 1;

        private final Town[] ring = new Town[PLACES];
        private int free;
        int size;

        Past() {
            for (int i = 0; i < PLACES; i++) {
                ring[i] = new Town();
            }
        }

        void forget() {
            size = 0;
        }

        /** Ahead of an act that may not be done. */
        void hold(Town town) {
            ring[free].copy(town);
        }

        /** What was held is the latest that can be undone. */
        void keep() {
            free = free + 1 < PLACES ? free + 1 : 0;
            size = Math.min(size + 1, MOST);
        }

        boolean takeBack(Town town) {
            if (size == 0) {
                return false;
            }
            free = free > 0 ? free - 1 : PLACES - 1;
            size--;
            town.copy(ring[free]);
            return true;
        }
    }

    /**
     * Chooses some of a man's ladders: for each sum of their weights the cheapest choice. A cost is UNIT times what is
     * counted, and the ladders as bits: so of choices that count alike the least as bits is the cheapest.
     */
    private static final class Purse {
        static final int NEVER = 0x7fffffff;
        static final int UNIT = 1 << MOST_LADDERS;
        static final int BITS = UNIT - 1;
        private static final int MOST = MOST_LADDERS * MOST_RUNGS;

        private final int[] costs = new int[MOST + 1];

        void fillByLooks(Ladders ladders, int m) {
            empty();
            for (int l = 0; l < ladders.size; l++) {
                if (ladders.measure(l, Ladders.OWNER) == m) {
                    add(ladders.measure(l, Ladders.LOOKS), UNIT + (1 << l));
                }
            }
        }

        void fillByWood(Ladders ladders, int m) {
            empty();
            for (int l = 0; l < ladders.size; l++) {
                if (ladders.measure(l, Ladders.OWNER) == m) {
                    add(ladders.measure(l, Ladders.LENGTH), UNIT * ladders.measure(l, Ladders.LOOKS) + (1 << l));
                }
            }
        }

        private void empty() {
            Arrays.fill(costs, NEVER);
            costs[0] = 0;
        }

        private void add(int weight, int cost) {
            if (weight <= 0) {
                return;
            }
            for (int sum = MOST; sum >= weight; sum--) {
                if (costs[sum - weight] != NEVER) {
                    costs[sum] = Math.min(costs[sum], costs[sum - weight] + cost);
                }
            }
        }

        int just(int sum) {
            return sum >= 0 && sum <= MOST ? costs[sum] : NEVER;
        }

        int atLeast(int least) {
            int cost = NEVER;
            for (int sum = Math.max(least, 0); sum <= MOST; sum++) {
                cost = Math.min(cost, costs[sum]);
            }
            return cost;
        }
    }

    /** A LEDGER's lines, and how it went when it was lived. */
    private static final class Ledger {
        static final int TOLD = 4;
        private static final int MOST_BYTES = 400;
        private static final int MOST = 40;
        private static final int NO_SUCH = 9;

        private final Key[] acts = new Key[MOST];
        private final int[] men = new int[MOST];
        private final int[] firsts = new int[MOST];
        /** The second number, or the man who is paid. */
        private final int[] seconds = new int[MOST];
        private int size;
        /** The lines ahead of the one that is WRONG. */
        int done;
        int why;

        Ledger() {
            for (int i = 0; i < MOST; i++) {
                acts[i] = Key.OTHER;
            }
        }

        boolean read(Reader reader, Town town) {
            size = 0;
            reader.open(MOST_BYTES);
            for (int line = 0; line <= MOST && reader.kind != Reader.END; line++) {
                if (!readLine(reader, town) || !reader.takeSign(';')) {
                    return false;
                }
            }
            return true;
        }

        private boolean readLine(Reader reader, Town town) {
            Key act = reader.key();
            int m = NONE;
            if (act == Key.OTHER) {
                if (!reader.seesMan(town)) {
                    return false;
                }
                m = reader.taken;
            } else if (act.sort == NONE || act.needsMan()) {
                return reader.fail(Reader.UNFIT);
            }
            if (size >= MOST) {
                return reader.fail(Reader.MANY);
            }
            reader.step();
            if (m != NONE) {
                act = reader.key();
                if (!act.needsMan()) {
                    return reader.fail(Reader.UNFIT);
                }
                reader.step();
            }
            acts[size] = act;
            men[size] = m;
            return readRest(reader, town, act);
        }

        private boolean readRest(Reader reader, Town town, Key act) {
            if (act.first != NONE) {
                if (!reader.takeNumber(0, act.first)) {
                    return false;
                }
                firsts[size] = reader.taken;
            }
            if (act.second != NONE || act == Key.PAYS) {
                boolean well = act == Key.PAYS ? reader.takeMan(town) : reader.takeNumber(0, act.second);
                if (!well) {
                    return false;
                }
                seconds[size] = reader.taken;
            }
            size++;
            return true;
        }

        void live(Town town) {
            why = 0;
            done = 0;
            while (done < size) {
                int not = act(done, town);
                if (not != 0) {
                    why = acts[done].sort + (not == NONE ? NO_SUCH : not);
                    return;
                }
                done++;
            }
        }

        private int act(int line, Town town) {
            Key act = acts[line];
            int first = firsts[line];
            int second = seconds[line];
            switch (act) {
                case PAYS:
                    return town.payWith(men[line], first, second);
                case SAWS:
                    return town.sawAbove(first, second);
                case SPLICES:
                    return town.spliceOnto(first, second);
                case CLIMBS:
                    return whyNoClimb(town.climbUp(men[line], first));
                case BURNS:
                    return town.burnDown(first);
                case PAINTS:
                    return town.paintRung(first, second);
                case TAXES:
                    return town.raiseTaxes();
                default:
                    return town.passWinter(first);
            }
        }

        private static int whyNoClimb(int high) {
            if (high == CLIMB_GONE) {
                return 1;
            }
            return high == NONE ? NONE : 0;
        }
    }

    /** A SENTENCE, its parts ahead of what joins them. */
    private static final class Sentence {
        private static final int MOST_BYTES = 200;
        private static final int MOST_ONES = 20;
        private static final int MOST_WITHIN = 8;
        private static final int MOST_PARTS = 2 * MOST_ONES;

        private final Key[] parts = new Key[MOST_PARTS];
        private final int[] signs = new int[MOST_PARTS];
        private final int[] numbers = new int[MOST_PARTS];
        private final int[] stack = new int[MOST_PARTS];
        private int size;
        int ones;

        Sentence() {
            for (int i = 0; i < MOST_PARTS; i++) {
                parts[i] = Key.OTHER;
            }
        }

        void forget() {
            size = 0;
            ones = 0;
        }

        boolean isTold() {
            return ones > 0;
        }

        void copy(Sentence from) {
            for (int i = 0; i < MOST_PARTS; i++) {
                parts[i] = from.parts[i];
                signs[i] = from.signs[i];
                numbers[i] = from.numbers[i];
            }
            size = from.size;
            ones = from.ones;
        }

        boolean read(Reader reader, Town town) {
            forget();
            reader.open(MOST_BYTES);
            if (!readCond(reader, town, 1)) {
                return false;
            }
            return reader.kind == Reader.END || reader.fail(Reader.UNFIT);
        }

        private boolean readCond(Reader reader, Town town, int depth) {
            if (!readAll(reader, town, depth)) {
                return false;
            }
            for (int more = 0; more < MOST_ONES && reader.key() == Key.OR; more++) {
                reader.step();
                if (!readAll(reader, town, depth)) {
                    return false;
                }
                add(Key.OR, 0, 0);
            }
            return true;
        }

        private boolean readAll(Reader reader, Town town, int depth) {
            if (!readOne(reader, town, depth)) {
                return false;
            }
            for (int more = 0; more < MOST_ONES && reader.key() == Key.AND; more++) {
                reader.step();
                if (!readOne(reader, town, depth)) {
                    return false;
                }
                add(Key.AND, 0, 0);
            }
            return true;
        }

        private boolean readOne(Reader reader, Town town, int depth) {
            Key key = reader.key();
            boolean bracket = reader.isSign('(');
            if (!bracket && key != Key.NOT && key != Key.OF && !key.isPlain() && !key.isMeasure()) {
                return reader.fail(Reader.UNFIT);
            }
            if (ones >= MOST_ONES || depth > MOST_WITHIN) {
                return reader.fail(Reader.MANY);
            }
            ones++;
            reader.step();
            if (bracket) {
                return readCond(reader, town, depth + 1) && reader.takeSign(')');
            }
            if (key == Key.NOT) {
                boolean well = readOne(reader, town, depth + 1);
                add(Key.NOT, 0, 0);
                return well;
            }
            return readSimple(reader, town, key);
        }

        private boolean readSimple(Reader reader, Town town, Key key) {
            int sign = 0;
            int number = 0;
            if (key == Key.OF) {
                if (!reader.takeMan(town)) {
                    return false;
                }
                number = reader.taken;
            } else if (key.isMeasure()) {
                if (!reader.takeCompare()) {
                    return false;
                }
                sign = reader.taken;
                if (!reader.takeNumber(0, 999)) {
                    return false;
                }
                number = reader.taken;
            }
            add(key, sign, number);
            return true;
        }

        private void add(Key part, int sign, int number) {
            if (size < MOST_PARTS) {
                parts[size] = part;
                signs[size] = sign;
                numbers[size] = number;
                size++;
            }
        }

        /** The ladders of which it may be said. */
        int bits(Ladders ladders) {
            int top = 0;
            for (int i = 0; i < size; i++) {
                Key part = parts[i];
                if (part == Key.NOT) {
                    if (top >= 1) {
                        stack[top - 1] = ladders.allBits() & ~stack[top - 1];
                    }
                } else if (part == Key.AND || part == Key.OR) {
                    if (top >= 2) {
                        int both = stack[top - 2] & stack[top - 1];
                        int some = stack[top - 2] | stack[top - 1];
                        stack[top - 2] = part == Key.AND ? both : some;
                        top--;
                    }
                } else if (top < MOST_PARTS) {
                    stack[top] = bitsOfPart(i, ladders);
                    top++;
                }
            }
            return top >= 1 ? stack[0] : 0;
        }

        private int bitsOfPart(int i, Ladders ladders) {
            int bits = 0;
            for (int l = 0; l < ladders.size; l++) {
                if (holds(i, ladders, l)) {
                    bits |= 1 << l;
                }
            }
            return bits;
        }

        private boolean holds(int i, Ladders ladders, int l) {
            switch (parts[i]) {
                case GONE:
                    return !ladders.isThere(l);
                case BEARS:
                    return ladders.bears(l);
                case FALSE:
                    return ladders.hasPaint(l);
                case OF:
                    return ladders.measure(l, Ladders.OWNER) == numbers[i];
                case LONG:
                    return compares(ladders.measure(l, Ladders.LENGTH), i);
                case LOOKS:
                    return compares(ladders.measure(l, Ladders.LOOKS), i);
                case WORTH:
                    return compares(ladders.measure(l, Ladders.WORTH), i);
                default:
                    return compares(l, i);
            }
        }

        private boolean compares(int measured, int i) {
            if (signs[i] == '<') {
                return measured < numbers[i];
            }
            return signs[i] == '=' ? measured == numbers[i] : measured > numbers[i];
        }
    }
}
