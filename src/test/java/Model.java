import java.math.BigInteger;
import java.util.ArrayDeque;
import java.util.ArrayList;
import java.util.Arrays;
import java.util.Deque;
import java.util.List;
import java.util.NoSuchElementException;
import java.util.Set;
import java.util.TreeSet;
import java.util.function.IntPredicate;
import java.util.regex.Matcher;
import java.util.regex.Pattern;

/** The document once more, in the plainest way and by other means (texts, sets, all choices tried), to compare with. */
final class Model {
    private static final Set<String> TOLD = Set.of("man", "ladder", "debt", "rot", "pays", "climbs", "saws", "splices",
            "burns", "paints", "taxes", "winter", "or", "and", "not", "gone", "bears", "false", "of", "long", "looks",
            "worth", "number");

    static final class Ladder {
        int owner;
        String rungs;
        Set<Integer> hands = new TreeSet<>();

        Ladder(int owner, String rungs) {
            this.owner = owner;
            this.rungs = rungs;
            hands.add(owner);
        }

        Ladder copy() {
            Ladder l = new Ladder(owner, rungs);
            l.hands = new TreeSet<>(hands);
            return l;
        }

        boolean gone() {
            return rungs.isEmpty();
        }

        void go() {
            rungs = "";
            owner = -1;
        }

        int having(String kinds) {
            return (int) rungs.chars().filter(c -> kinds.indexOf(c) >= 0).count();
        }

        int looks() {
            return having("sp");
        }

        int worth() {
            return having("s");
        }

        int reach() {
            return rungs.length() - rungs.replaceFirst("^s*", "").length();
        }

        boolean bears() {
            return rungs.matches("s+");
        }
    }

    static final class Town {
        List<String> men = new ArrayList<>();
        List<Ladder> ladders = new ArrayList<>();
        int[][] debts = new int[6][6];
        int[] payments = new int[6];
        int rot = 1;
        int winters;
        int mint;
        int cuts;

        Town copy() {
            Town t = new Town();
            t.men.addAll(men);
            ladders.forEach(l -> t.ladders.add(l.copy()));
            for (int i = 0; i < 6; i++) {
                t.debts[i] = debts[i].clone();
            }
            t.payments = payments.clone();
            t.rot = rot;
            t.winters = winters;
            t.mint = mint;
            t.cuts = cuts;
            return t;
        }
    }

    static final class Fault extends RuntimeException {
        private static final long serialVersionUID = 1L;
        final int kind;
        final int place;

        Fault(int kind, int place) {
            this.kind = kind;
            this.place = place;
        }
    }

    record Token(String text, int place) {
        boolean word() {
            return text.matches("[a-z]{1,12}");
        }

        boolean number() {
            return text.matches("[0-9]{1,3}");
        }
    }

    /** All tokens of a text; the last is the end of it, or where it is too long, and has no text. */
    static final class Tokens {
        final List<Token> all = new ArrayList<>();
        int at;
        final boolean tooLong;

        Tokens(String text, int most) {
            tooLong = text.length() > most;
            Matcher m = Pattern.compile("[a-z0-9]+|[^ \\n]", Pattern.DOTALL).matcher(text);
            while (m.find() && (m.start() < most)) {
                all.add(new Token(m.group(), m.start()));
            }
            all.add(new Token("", tooLong ? most : text.length()));
        }

        Token see() {
            return all.get(at);
        }

        boolean ended() {
            return at == all.size() - 1 && !tooLong;
        }

        Fault fault(int kind) {
            return new Fault(kind, see().place);
        }

        Token take(boolean fits) {
            if (!fits) {
                throw fault(1);
            }
            return all.get(at++);
        }

        void take(String text) {
            take(see().text.equals(text));
        }

        int takeNumber(int least, int most) {
            if (see().number() && (Integer.parseInt(see().text) < least || Integer.parseInt(see().text) > most)) {
                throw fault(2);
            }
            return Integer.parseInt(take(see().number()).text);
        }

        int seeMan(Town t) {
            if (!see().word() || TOLD.contains(see().text)) {
                throw fault(1);
            }
            if (!t.men.contains(see().text)) {
                throw fault(3);
            }
            return t.men.indexOf(see().text);
        }

        int takeMan(Town t) {
            int m = seeMan(t);
            at++;
            return m;
        }
    }

    private String tape = "";
    private Town t = new Town();
    private IntPredicate sentence;
    private int fault;
    private int given = -1;
    private int cut = -1;
    private int wood = -1;
    private int[] told;
    private final Deque<Town> past = new ArrayDeque<>();
    private final Town[] towns = new Town[2];
    private final IntPredicate[] sentences = new IntPredicate[2];

    int feed(int a, int b, int c, int d, int e) {
        if (tape.length() + 20 > 940) {
            return -1;
        }
        for (int n : new int[] {a, b, c, d, e}) {
            for (byte x : Arrays.copyOfRange(BigInteger.valueOf((1L << 32) + (n & 0xffffffffL)).toByteArray(), 1, 5)) {
                tape += (char) (x & 255);
            }
        }
        return tape.length();
    }

    boolean end(int n) {
        if (n < 0 || n > tape.length()) {
            return false;
        }
        tape = tape.substring(0, n);
        return true;
    }

    private String takeTape() {
        String text = tape;
        tape = "";
        fault = 0;
        return text;
    }

    int town() {
        try {
            Town fresh = new Town();
            int lines = readTown(new Tokens(takeTape(), 900), fresh);
            t = fresh;
            sentence = null;
            past.clear();
            return lines;
        } catch (Fault f) {
            fault = f.kind;
            return -1 - f.place;
        }
    }

    private static int readTown(Tokens in, Town into) {
        int lines = 0;
        int debts = 0;
        boolean rot = false;
        while (!in.ended()) {
            switch (in.see().text) {
                case "man" -> {
                    if (into.men.size() == 6) {
                        throw in.fault(4);
                    }
                    in.at++;
                    Token name = in.see();
                    if (name.word() && !TOLD.contains(name.text) && (name.text.length() > 7 || into.men.contains(name.text))) {
                        throw in.fault(3);
                    }
                    into.men.add(in.take(name.word() && !TOLD.contains(name.text)).text);
                }
                case "ladder" -> {
                    if (into.ladders.size() == 16) {
                        throw in.fault(4);
                    }
                    in.at++;
                    int m = in.takeMan(into);
                    if (in.see().word() && !in.see().text.matches("[srp]+")) {
                        throw in.fault(3);
                    }
                    into.ladders.add(new Ladder(m, in.take(in.see().word()).text));
                }
                case "debt" -> {
                    if (debts++ == 20) {
                        throw in.fault(4);
                    }
                    in.at++;
                    int m = in.takeMan(into);
                    int o = in.seeMan(into);
                    if (m == o || into.debts[m][o] > 0) {
                        throw in.fault(3);
                    }
                    in.at++;
                    into.debts[m][o] = in.takeNumber(1, 250);
                }
                case "rot" -> {
                    if (rot) {
                        throw in.fault(3);
                    }
                    rot = true;
                    in.at++;
                    into.rot = in.takeNumber(0, 12);
                }
                default -> throw in.fault(1);
            }
            in.take(";");
            lines++;
        }
        return lines;
    }

    int fault() {
        return fault;
    }

    private boolean isLadder(int l) {
        return l >= 0 && l < t.ladders.size();
    }

    private boolean isMan(int m) {
        return m >= 0 && m < t.men.size();
    }

    private static int bits(Iterable<Integer> numbers) {
        int bits = 0;
        for (int n : numbers) {
            bits |= 1 << n;
        }
        return bits;
    }

    int ladder(int l, int what) {
        if (!isLadder(l) || what < 0 || what > 5) {
            throw new NoSuchElementException();
        }
        Ladder x = t.ladders.get(l);
        return List.of(x.owner, x.rungs.length(), x.looks(), x.worth(), x.reach(), bits(x.hands)).get(what);
    }

    int rung(int l, int k) {
        return isLadder(l) && k >= 0 && k < t.ladders.get(l).rungs.length() ? "srp".indexOf(t.ladders.get(l).rungs.charAt(k))
                : -1;
    }

    private List<Integer> ladders(IntPredicate which) {
        List<Integer> list = new ArrayList<>();
        for (int l = 0; l < t.ladders.size(); l++) {
            if (which.test(l)) {
                list.add(l);
            }
        }
        return list;
    }

    private List<Integer> his(int m) {
        return ladders(l -> t.ladders.get(l).owner == m);
    }

    int man(int m, int what) {
        if (!isMan(m) || what < 0 || what > 6) {
            return -1;
        }
        int[] got = new int[7];
        got[0] = bits(his(m));
        for (int l : his(m)) {
            got[1] += t.ladders.get(l).looks();
            got[2] += t.ladders.get(l).worth();
            got[5] = Math.max(got[5], t.ladders.get(l).reach());
        }
        for (int o = 0; o < 6; o++) {
            got[3] += t.debts[m][o];
            got[4] += t.debts[o][m];
        }
        got[6] = t.payments[m];
        return got[what];
    }

    int debt(int m, int o) {
        return isMan(m) && isMan(o) && m != o ? t.debts[m][o] : -1;
    }

    private static int sum(int[][] debts) {
        return Arrays.stream(debts).flatMapToInt(Arrays::stream).sum();
    }

    int now(int what) {
        if (what < 0 || what > 7) {
            return -1;
        }
        int painted = t.ladders.stream().mapToInt(l -> l.having("p")).sum();
        int looks = t.ladders.stream().mapToInt(Ladder::looks).sum();
        int worth = t.ladders.stream().mapToInt(Ladder::worth).sum();
        return List.of(t.winters, bits(ladders(l -> !t.ladders.get(l).gone())), t.mint, sum(t.debts), looks, worth, painted,
                t.cuts).get(what);
    }

    private int kept(Town before, int why) {
        if (why == 0) {
            keep(before);
        }
        return why;
    }

    private void keep(Town before) {
        past.push(before);
        if (past.size() > 8) {
            past.removeLast();
        }
    }

    int pay(int m, int l, int o) {
        return kept(t.copy(), doPay(m, l, o));
    }

    private int doPay(int m, int l, int o) {
        if (!isMan(m) || !isMan(o) || m == o || !isLadder(l)) {
            return -1;
        }
        Ladder x = t.ladders.get(l);
        if (x.gone() || x.owner != m) {
            return 1;
        }
        if (t.debts[m][o] == 0) {
            return 2;
        }
        if (x.looks() > t.debts[m][o]) {
            return 3;
        }
        x.owner = o;
        x.hands.add(o);
        t.debts[m][o] -= x.looks();
        t.payments[m]++;
        return 0;
    }

    int saw(int l, int k) {
        return kept(t.copy(), doSaw(l, k));
    }

    private int doSaw(int l, int k) {
        if (!isLadder(l) || k < 0 || k > 31) {
            return -1;
        }
        Ladder x = t.ladders.get(l);
        if (x.gone()) {
            return 1;
        }
        if (k == 0 || k >= x.rungs.length()) {
            return 2;
        }
        if (t.ladders.size() == 16) {
            return 3;
        }
        Ladder y = x.copy();
        y.rungs = x.rungs.substring(k);
        x.rungs = x.rungs.substring(0, k);
        t.ladders.add(y);
        t.cuts++;
        return 0;
    }

    int splice(int l, int on) {
        return kept(t.copy(), doSplice(l, on));
    }

    private int doSplice(int l, int on) {
        if (!isLadder(l) || !isLadder(on)) {
            return -1;
        }
        Ladder x = t.ladders.get(l);
        Ladder y = t.ladders.get(on);
        if (x.gone() || y.gone() || l == on) {
            return 1;
        }
        if (x.owner != y.owner) {
            return 2;
        }
        if (x.rungs.length() + y.rungs.length() > 32) {
            return 3;
        }
        x.rungs += y.rungs;
        x.hands.addAll(y.hands);
        y.go();
        return 0;
    }

    int climb(int m, int l) {
        Town before = t.copy();
        int high = doClimb(m, l);
        if (high >= 0) {
            keep(before);
        }
        return high;
    }

    private int doClimb(int m, int l) {
        if (!isMan(m) || !isLadder(l)) {
            return -1;
        }
        Ladder x = t.ladders.get(l);
        if (x.gone()) {
            return -2;
        }
        int high = x.reach();
        x.rungs = x.rungs.replaceFirst("^(s*)p", "$1r");
        return high;
    }

    int burn(int l) {
        return kept(t.copy(), doBurn(l));
    }

    private int doBurn(int l) {
        if (!isLadder(l)) {
            return -1;
        }
        if (t.ladders.get(l).gone()) {
            return 1;
        }
        t.ladders.get(l).go();
        return 0;
    }

    int paint(int l, int k) {
        return kept(t.copy(), doPaint(l, k));
    }

    private int doPaint(int l, int k) {
        if (!isLadder(l) || k < 0 || k > 31) {
            return -1;
        }
        Ladder x = t.ladders.get(l);
        if (x.gone()) {
            return 1;
        }
        if (k >= x.rungs.length()) {
            return 2;
        }
        if (x.rungs.charAt(k) != 'r') {
            return 3;
        }
        x.rungs = x.rungs.substring(0, k) + 'p' + x.rungs.substring(k + 1);
        return 0;
    }

    int taxes() {
        return kept(t.copy(), doTaxes());
    }

    private int doTaxes() {
        boolean any = false;
        for (Ladder x : t.ladders) {
            if (!x.gone()) {
                any = true;
                t.mint++;
                x.rungs = x.rungs.substring(0, x.rungs.length() - 1);
                if (x.gone()) {
                    x.go();
                }
            }
        }
        return any ? 0 : 1;
    }

    int winter(int seed) {
        return kept(t.copy(), doWinter(seed));
    }

    private int doWinter(int seed) {
        return doDrawn(t, 1, seed) == 1 ? 0 : 1;
    }

    private static int doDrawn(Town town, int n, int seed) {
        int x = seed;
        int went = 0;
        for (int w = 0; w < n && town.winters < 99; w++) {
            for (Ladder l : town.ladders) {
                char[] c = l.rungs.toCharArray();
                for (int k = 0; k < c.length; k++) {
                    if (c[k] == 's') {
                        x = x * 1103515245 + 12345;
                        c[k] = (x >>> 8) % 12 < town.rot ? 'r' : 's';
                    }
                }
                l.rungs = new String(c);
            }
            town.winters++;
            went++;
        }
        return went;
    }

    private int[][] anew() {
        int[][] fresh = new int[6][6];
        int[] rest = new int[6];
        for (int m = 0; m < 6; m++) {
            for (int o = 0; o < 6; o++) {
                rest[m] += t.debts[o][m] - t.debts[m][o];
            }
        }
        int m = 0;
        int o = 0;
        while (m < 6 && o < 6) {
            if (rest[m] >= 0) {
                m++;
            } else if (rest[o] <= 0) {
                o++;
            } else {
                rest[m]++;
                rest[o]--;
                fresh[m][o]++;
            }
        }
        return fresh;
    }

    int strike() {
        int[][] fresh = anew();
        if (Arrays.deepEquals(fresh, t.debts)) {
            return -2;
        }
        int less = sum(t.debts) - sum(fresh);
        keep(t.copy());
        t.debts = fresh;
        return less;
    }

    int undo() {
        if (past.isEmpty()) {
            return -1;
        }
        t = past.pop();
        return past.size();
    }

    int price(int m, int n) {
        if (!isMan(m) || n < 1 || n > 500) {
            return -1;
        }
        // key: cuts, ladders, bits, the one that is cut, K
        int[] best = null;
        int mine = bits(his(m));
        for (int set = mine; set > 0; set = set - 1 & mine) {
            int sum = 0;
            for (int l = 0; l < 16; l++) {
                sum += (set >> l & 1) == 1 ? t.ladders.get(l).looks() : 0;
            }
            if (sum == n) {
                best = less(best, new int[] {0, Integer.bitCount(set), set, 0, 0});
            }
            for (int l = 0; l < 16 && sum > n; l++) {
                if ((set >> l & 1) == 1) {
                    String rungs = t.ladders.get(l).rungs;
                    for (int k = 1; k < rungs.length(); k++) {
                        int above = (int) rungs.substring(k).chars().filter(c -> c != 'r').count();
                        if (sum - above == n) {
                            best = less(best, new int[] {1, Integer.bitCount(set), set, l, k});
                        }
                    }
                }
            }
        }
        if (best == null) {
            return -1;
        }
        given = best[2];
        cut = best[0] == 0 ? -1 : best[3] * 100 + best[4];
        return best[0] * 100 + best[1];
    }

    private static int[] less(int[] a, int[] b) {
        return a == null || Arrays.compare(b, a) < 0 ? b : a;
    }

    int given() {
        return given;
    }

    int cut() {
        return cut;
    }

    int height(int h) {
        if (h < 1 || h > 500) {
            return -1;
        }
        int best = -1;
        int all = bear();
        for (int set = all; set > 0; set = set - 1 & all) {
            int sum = 0;
            for (int l = 0; l < 16; l++) {
                sum += (set >> l & 1) == 1 ? t.ladders.get(l).rungs.length() : 0;
            }
            if (sum >= h && (best == -1 || Integer.bitCount(set) < best)) {
                best = Integer.bitCount(set);
            }
        }
        return best;
    }

    int bear() {
        return bits(ladders(l -> t.ladders.get(l).bears()));
    }

    int test(int n, int what) {
        int looking = now(4);
        if (n < 1 || n > 3 || what < 0 || what > 1 || looking < n) {
            throw new NoSuchElementException();
        }
        // rungs 0 .. painted - 1 are the painted ones
        long all = 0;
        long found = 0;
        int painted = now(6);
        for (int i = 0; i < looking; i++) {
            for (int j = n > 1 ? i + 1 : looking - 1; j < looking; j++) {
                for (int k = n > 2 ? j + 1 : looking - 1; k < looking; k++) {
                    all++;
                    found += i < painted ? 1 : 0;
                }
            }
        }
        BigInteger shared = BigInteger.valueOf(all).gcd(BigInteger.valueOf(found));
        return BigInteger.valueOf(what == 0 ? found : all).divide(shared).intValue();
    }

    int suspect() {
        int best = -1;
        for (int l : ladders(l -> t.ladders.get(l).having("p") > 0)) {
            Ladder x = t.ladders.get(l);
            if (best == -1 || (double) x.having("p") / x.looks() > (double) t.ladders.get(best).having("p")
                    / t.ladders.get(best).looks() + 1e-9) {
                best = l;
            }
        }
        return best;
    }

    int fire(int m, int n) {
        if (!isMan(m) || n < 1 || n > 500) {
            return -1;
        }
        int[] best = null;
        int mine = bits(his(m));
        for (int set = mine; set > 0; set = set - 1 & mine) {
            int rungs = 0;
            int looks = 0;
            for (int l = 0; l < 16; l++) {
                if ((set >> l & 1) == 1) {
                    rungs += t.ladders.get(l).rungs.length();
                    looks += t.ladders.get(l).looks();
                }
            }
            if (rungs >= n) {
                best = less(best, new int[] {looks, set});
            }
        }
        if (best == null) {
            return -1;
        }
        wood = best[1];
        return best[0];
    }

    int wood() {
        return wood;
    }

    private Set<Integer> breaking(int what) {
        Set<Integer> broke = new TreeSet<>();
        while (true) {
            Set<Integer> more = new TreeSet<>(broke);
            for (int m = 0; m < t.men.size(); m++) {
                int has = man(m, what);
                for (int o = 0; o < t.men.size(); o++) {
                    has += broke.contains(o) ? 0 : t.debts[o][m];
                }
                if (has < man(m, 3)) {
                    more.add(m);
                }
            }
            if (more.equals(broke)) {
                return broke;
            }
            broke = more;
        }
    }

    int broke() {
        return bits(breaking(1));
    }

    int bubbles() {
        Set<Integer> some = breaking(2);
        some.removeAll(breaking(1));
        return bits(some);
    }

    int forgers() {
        String text = tape;
        tape = "";
        if (text.isEmpty() || text.length() > 16 || text.chars().anyMatch(l -> l >= t.ladders.size())) {
            return -1;
        }
        Set<Integer> men = new TreeSet<>(List.of(0, 1, 2, 3, 4, 5));
        text.chars().forEach(l -> men.retainAll(t.ladders.get(l).hands));
        return bits(men);
    }

    int struck() {
        return sum(anew());
    }

    int stands(int m) {
        if (!isMan(m)) {
            throw new NoSuchElementException();
        }
        return man(m, 4) - man(m, 3);
    }

    int cheapest(int h) {
        return h < 1 || h > 32 ? -1 : t.ladders.stream().filter(x -> x.bears() && x.rungs.length() >= h)
                .mapToInt(Ladder::looks).min().orElse(-1);
    }

    int drawn(int n, int seed) {
        if (n < 1 || n > 30) {
            return -1;
        }
        Town before = t.copy();
        int went = doDrawn(t, n, seed);
        if (went > 0) {
            keep(before);
        }
        return went;
    }

    int odds(int m, int w, int n, int seed) {
        if (!isMan(m) || w < 0 || w > 500 || n < 1 || n > 30) {
            return -1;
        }
        int times = 0;
        for (int i = 0; i < n; i++) {
            Town other = t.copy();
            doDrawn(other, 5, seed + i);
            times += other.ladders.stream().filter(x -> x.owner == m).mapToInt(Ladder::looks).sum() >= w ? 1 : 0;
        }
        return times;
    }

    int ledger(int lives) {
        if (lives < 0 || lives > 1) {
            return -1000;
        }
        List<int[]> lines;
        try {
            lines = readLedger(new Tokens(takeTape(), 400));
        } catch (Fault f) {
            fault = f.kind;
            return -2 - f.place;
        }
        Town before = t.copy();
        int good = 0;
        int why = 0;
        while (good < lines.size() && why == 0) {
            why = live(lines.get(good));
            good += why == 0 ? 1 : 0;
        }
        told = new int[] {why, good, now(3), now(1)};
        if (lives == 0) {
            t = before;
        } else {
            keep(before);
        }
        return why == 0 ? -1 : good;
    }

    private List<int[]> readLedger(Tokens in) {
        List<int[]> lines = new ArrayList<>();
        while (!in.ended()) {
            String first = in.see().text;
            boolean alone = List.of("saws", "splices", "burns", "paints", "taxes", "winter").contains(first);
            int m = alone ? -1 : in.seeMan(t);
            if (lines.size() == 40) {
                throw in.fault(4);
            }
            in.at++;
            if (!alone) {
                first = in.take(in.see().text.equals("pays") || in.see().text.equals("climbs")).text;
            }
            int[] line;
            switch (first) {
                case "pays" -> line = new int[] {0, m, in.takeNumber(0, 15), in.takeMan(t)};
                case "saws" -> line = new int[] {10, in.takeNumber(0, 15), in.takeNumber(0, 31)};
                case "splices" -> line = new int[] {20, in.takeNumber(0, 15), in.takeNumber(0, 15)};
                case "climbs" -> line = new int[] {30, m, in.takeNumber(0, 15)};
                case "burns" -> line = new int[] {40, in.takeNumber(0, 15)};
                case "paints" -> line = new int[] {50, in.takeNumber(0, 15), in.takeNumber(0, 31)};
                case "taxes" -> line = new int[] {60};
                default -> line = new int[] {70, in.takeNumber(0, 99)};
            }
            in.take(";");
            lines.add(line);
        }
        return lines;
    }

    private int live(int[] line) {
        int why;
        switch (line[0]) {
            case 0 -> why = doPay(line[1], line[2], line[3]);
            case 10 -> why = doSaw(line[1], line[2]);
            case 20 -> why = doSplice(line[1], line[2]);
            case 30 -> {
                int high = doClimb(line[1], line[2]);
                why = high == -2 ? 1 : Math.min(high, 0);
            }
            case 40 -> why = doBurn(line[1]);
            case 50 -> why = doPaint(line[1], line[2]);
            case 60 -> why = doTaxes();
            default -> why = doWinter(line[1]);
        }
        return why == 0 ? 0 : line[0] + (why == -1 ? 9 : why);
    }

    int told(int what) {
        return told == null || what < 0 || what > 3 ? -1 : told[what];
    }

    private int ones;

    int sentence() {
        try {
            Tokens in = new Tokens(takeTape(), 200);
            ones = 0;
            IntPredicate fresh = cond(in, 1);
            if (!in.ended()) {
                throw in.fault(1);
            }
            sentence = fresh;
            return ones;
        } catch (Fault f) {
            fault = f.kind;
            return -1 - f.place;
        }
    }

    private IntPredicate cond(Tokens in, int depth) {
        IntPredicate some = all(in, depth);
        while (in.see().text.equals("or")) {
            in.at++;
            some = some.or(all(in, depth));
        }
        return some;
    }

    private IntPredicate all(Tokens in, int depth) {
        IntPredicate every = one(in, depth);
        while (in.see().text.equals("and")) {
            in.at++;
            every = every.and(one(in, depth));
        }
        return every;
    }

    private IntPredicate one(Tokens in, int depth) {
        String first = in.see().text;
        if (!first.matches("not|\\(|gone|bears|false|of|long|looks|worth|number")) {
            throw in.fault(1);
        }
        if (++ones > 20 || depth > 8) {
            throw in.fault(4);
        }
        in.at++;
        switch (first) {
            case "not":
                return one(in, depth + 1).negate();
            case "(":
                IntPredicate inside = cond(in, depth + 1);
                in.take(")");
                return inside;
            case "gone":
                return l -> t.ladders.get(l).gone();
            case "bears":
                return l -> t.ladders.get(l).bears();
            case "false":
                return l -> t.ladders.get(l).having("p") > 0;
            case "of":
                int m = in.takeMan(t);
                return l -> t.ladders.get(l).owner == m;
            default:
                String sign = in.take(in.see().text.matches("[<=>]")).text;
                int n = in.takeNumber(0, 999);
                return l -> {
                    Ladder x = t.ladders.get(l);
                    int is = first.equals("long") ? x.rungs.length() : first.equals("looks") ? x.looks()
                            : first.equals("worth") ? x.worth() : l;
                    return "<=>".charAt(Integer.compare(is, n) + 1) == sign.charAt(0);
                };
        }
    }

    int said(int k) {
        if (sentence == null) {
            return -1;
        }
        List<Integer> list = ladders(sentence);
        return k == -1 ? list.size() : k >= 0 && k < list.size() ? list.get(k) : -1;
    }

    boolean image(int k) {
        if (k != 0 && k != 1) {
            return false;
        }
        towns[k] = t.copy();
        sentences[k] = sentence;
        return true;
    }

    boolean restore(int k) {
        if (k != 0 && k != 1 || towns[k] == null) {
            return false;
        }
        t = towns[k].copy();
        sentence = sentences[k];
        past.clear();
        return true;
    }

    int count(int what) {
        return what < 0 || what > 3 ? -1 : List.of(t.men.size(), t.ladders.size(), t.rot, tape.length()).get(what);
    }

    // what a random run needs to know

    int ladders() {
        return t.ladders.size();
    }

    List<String> men() {
        return t.men;
    }
}
