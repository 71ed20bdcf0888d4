import java.util.List;
import java.util.NoSuchElementException;
import java.util.Random;

/** Runs of random calls, the same each time: the class answers as the model does, and throws nothing else. */
public final class RandomTest {
    private static final int RUNS = 1500;
    /** The last step of a run makes some sixty calls at most: together 512 at most, beyond which answers are free. */
    private static final int CALLS = 450;
    private static final String[] NAMES = {"a", "bob", "sr", "cid", "eve", "abcdefg", "mm"};
    private static final String[] STRAY = {";", "?", " ", "\n", "man", "ladder", "debt", "rot", "pays", "or", "not", "(", ")",
        "<", "999", "1000", "0", "s", "x", "abcdefgh", "abcdefghijklm", ".", "taxes", "gone", "\t", "a1", "16", "32"};

    private interface Call {
        int answer();
    }

    private final Random random;
    private RungMoney x;
    private Model model;

    private RandomTest(int seed) {
        random = new Random(seed);
        x = new RungMoney();
        model = new Model();
    }

    public static void main(String[] args) {
        for (int seed = 0; seed < RUNS; seed++) {
            new RandomTest(seed).run(seed);
        }
        Check.finish();
    }

    private void run(int seed) {
        int calls = 0;
        if (seed % 10 != 0) {
            calls += tell(townText());
            calls += both("town()", x::town, model::town);
        }
        while (calls < CALLS) {
            int step = random.nextInt(100);
            if (step < 2) {
                calls += tell(random.nextInt(3) == 0 ? spoilt(townText()) : townText());
                calls += both("town()", x::town, model::town);
            } else if (step < 9) {
                calls += ledgerCall();
            } else if (step < 15) {
                calls += tell(random.nextInt(4) == 0 ? spoilt(sentenceText(0)) : sentenceText(0));
                calls += both("sentence()", x::sentence, model::sentence);
                calls += both("said(-1)", () -> x.said(-1), () -> model.said(-1));
            } else if (step < 18) {
                calls += forgersCall();
            } else if (step < 60) {
                calls += act();
            } else {
                calls += question();
            }
        }
    }

    private int both(String what, Call mine, Call due) {
        Check.due(what, answer(what, mine), answer(what, due));
        return 1;
    }

    private static long answer(String what, Call call) {
        try {
            return call.answer();
        } catch (NoSuchElementException e) {
            return 1L << 40;
        } catch (RuntimeException e) {
            System.out.println(what + " threw " + e);
            return 1L << 41;
        }
    }

    private static int bit(boolean b) {
        return b ? 1 : 0;
    }

    private int tell(String text) {
        int calls = 0;
        if (random.nextInt(8) != 0) {
            calls += both("end(0)", () -> bit(x.end(0)), () -> bit(model.end(0)));
        }
        int before = model.count(3);
        for (int i = 0; i < text.length(); i += 20) {
            int[] n = new int[5];
            for (int k = 0; k < 20; k++) {
                n[k / 4] = n[k / 4] << 8 | (i + k < text.length() ? text.charAt(i + k) : 0);
            }
            calls += both("feed", () -> x.feed(n[0], n[1], n[2], n[3], n[4]), () -> model.feed(n[0], n[1], n[2], n[3], n[4]));
        }
        int end = before + text.length();
        return calls + both("end", () -> bit(x.end(end)), () -> bit(model.end(end)));
    }

    private String one(String... of) {
        return of[random.nextInt(of.length)];
    }

    private int upTo(int n) {
        return random.nextInt(n + 1);
    }

    private String townText() {
        StringBuilder text = new StringBuilder();
        int men = upTo(6);
        for (int m = 0; m < men; m++) {
            text.append("man ").append(NAMES[m]).append(";");
        }
        int ladders = men == 0 ? 0 : random.nextInt(5) == 0 ? upTo(16) : upTo(8);
        String kinds = one("s", "sr", "srp", "ssssrp", "sp", "sssssssp", "rp");
        for (int l = 0; l < ladders; l++) {
            text.append("ladder ").append(NAMES[random.nextInt(men)]).append(' ');
            for (int k = upTo(11); k >= 0; k--) {
                text.append(kinds.charAt(random.nextInt(kinds.length())));
            }
            text.append(";").append(one("", "", "\n", " "));
        }
        int most = one("9", "30", "250").equals("9") ? 9 : 60;
        for (int m = 0; m < men; m++) {
            for (int o = 0; o < men; o++) {
                if (m != o && random.nextInt(2) == 0) {
                    text.append("debt ").append(NAMES[m]).append(' ').append(NAMES[o]).append(' ');
                    text.append(1 + random.nextInt(most)).append(";");
                }
            }
        }
        if (random.nextBoolean()) {
            text.append("rot ").append(upTo(random.nextBoolean() ? 3 : 12)).append(';');
        }
        return text.toString();
    }

    private String spoilt(String text) {
        StringBuilder other = new StringBuilder(text);
        for (int times = upTo(2); times >= 0; times--) {
            int at = upTo(other.length());
            switch (random.nextInt(4)) {
                case 0 -> other.insert(at, one(STRAY));
                case 1 -> other.insert(at, " " + one(STRAY) + " ");
                case 2 -> other.delete(at, Math.min(other.length(), at + 1 + upTo(5)));
                default -> other.insert(at, " ".repeat(random.nextInt(300)));
            }
        }
        return other.length() > 900 ? other.substring(0, 900 + upTo(40) - Math.max(0, 940 - other.length())) : other.toString();
    }

    private String name() {
        List<String> men = model.men();
        return men.isEmpty() || random.nextInt(40) == 0 ? NAMES[random.nextInt(7)] : men.get(random.nextInt(men.size()));
    }

    private int someLadder() {
        int ladders = model.ladders();
        return ladders == 0 || random.nextInt(15) == 0 ? random.nextInt(19) - 2 : random.nextInt(ladders);
    }

    private int someMan() {
        return random.nextInt(20) == 0 ? random.nextInt(9) - 1 : random.nextInt(Math.max(1, model.men().size()));
    }

    private int someRung() {
        return random.nextInt(20) == 0 ? random.nextInt(36) - 2 : random.nextInt(13);
    }

    private int ledgerCall() {
        StringBuilder text = new StringBuilder();
        int lines = random.nextInt(12) == 0 ? 36 + upTo(6) : upTo(8);
        for (int i = 0; i < lines; i++) {
            int l = Math.max(0, Math.min(15, someLadder()));
            switch (lines > 30 ? 6 + random.nextInt(2) : random.nextInt(9)) {
                case 0, 1 -> text.append(name()).append(" pays ").append(l).append(' ').append(name());
                case 2 -> text.append("saws ").append(l).append(' ').append(random.nextInt(9));
                case 3 -> text.append("splices ").append(l).append(' ').append(Math.max(0, Math.min(15, someLadder())));
                case 4 -> text.append(name()).append(" climbs ").append(l);
                case 5 -> text.append("paints ").append(l).append(' ').append(random.nextInt(9));
                case 6 -> text.append("taxes");
                case 7 -> text.append("burns ").append(l);
                default -> text.append("winter ").append(random.nextInt(100));
            }
            text.append(one(";", ";", " ; "));
        }
        int calls = tell(random.nextInt(4) == 0 ? spoilt(text.toString()) : text.toString());
        int lives = random.nextInt(15) == 0 ? random.nextInt(5) - 2 : upTo(1);
        calls += both("ledger(" + lives + ") of " + text, () -> x.ledger(lives), () -> model.ledger(lives));
        for (int i = 0; i < 4; i++) {
            int what = i;
            calls += both("told(" + what + ")", () -> x.told(what), () -> model.told(what));
        }
        return calls + both("fault()", x::fault, model::fault);
    }

    private String sentenceText(int depth) {
        StringBuilder text = new StringBuilder();
        int parts = depth > 5 ? 0 : random.nextInt(depth == 0 ? 5 : 2);
        for (int i = 0; i <= parts; i++) {
            text.append(i == 0 ? "" : one(" or ", " and "));
            switch (random.nextInt(depth > 8 ? 7 : 9)) {
                case 0 -> text.append("gone");
                case 1 -> text.append("bears");
                case 2 -> text.append("false");
                case 3 -> text.append("of ").append(name());
                case 4, 5, 6 -> text.append(one("long", "looks", "worth", "number")).append(one("<", "=", ">"))
                        .append(random.nextInt(random.nextInt(9) == 0 ? 1000 : 9));
                case 7 -> text.append("not ").append(depth > 6 ? "gone" : "(" + sentenceText(depth + 2) + ")");
                default -> text.append(one("(", " ( ")).append(sentenceText(depth + 1)).append(")");
            }
        }
        return text.toString();
    }

    private int forgersCall() {
        StringBuilder text = new StringBuilder();
        for (int i = random.nextInt(8) == 0 ? upTo(18) : upTo(3); i > 0; i--) {
            text.append((char) (someLadder() & 255));
        }
        return tell(text.toString()) + both("forgers()", x::forgers, model::forgers);
    }

    private int act() {
        int m = someMan();
        int o = someMan();
        int l = someLadder();
        int j = someLadder();
        int k = someRung();
        int seed = random.nextBoolean() ? random.nextInt(100) : random.nextInt();
        switch (random.nextInt(14)) {
            case 0, 1:
                return both("pay", () -> x.pay(m, l, o), () -> model.pay(m, l, o));
            case 2:
                return both("saw", () -> x.saw(l, k), () -> model.saw(l, k));
            case 3:
                return both("splice", () -> x.splice(l, j), () -> model.splice(l, j));
            case 4:
                return both("climb", () -> x.climb(m, l), () -> model.climb(m, l));
            case 5:
                return random.nextInt(3) > 0 ? 1 : both("burn", () -> x.burn(l), () -> model.burn(l));
            case 6:
                return both("paint", () -> x.paint(l, k), () -> model.paint(l, k));
            case 7:
                return random.nextInt(3) > 0 ? 1 : both("taxes", x::taxes, model::taxes);
            case 8:
                return random.nextInt(2) > 0 ? 1 : both("winter", () -> x.winter(seed), () -> model.winter(seed));
            case 9:
                return random.nextInt(3) > 0 ? 1 : both("strike", x::strike, model::strike);
            case 10:
                return both("image", () -> bit(x.image(m - 1)), () -> bit(model.image(m - 1)));
            case 11:
                return random.nextInt(3) > 0 ? 1 : both("restore", () -> bit(x.restore(m)), () -> bit(model.restore(m)));
            case 12:
                int n = random.nextInt(5) == 0 ? random.nextInt(34) - 1 : 1 + random.nextInt(2);
                return random.nextInt(4) > 0 ? 1 : both("drawn", () -> x.drawn(n, seed), () -> model.drawn(n, seed));
            default:
                return both("undo", x::undo, model::undo);
        }
    }

    private int question() {
        int m = someMan();
        int o = someMan();
        int l = someLadder();
        int k = someRung();
        int what = random.nextInt(10) - 1;
        int n = random.nextInt(20) == 0 ? random.nextInt(510) - 4 : 1 + random.nextInt(30);
        int seed = random.nextBoolean() ? random.nextInt(100) : random.nextInt();
        switch (random.nextInt(22)) {
            case 0:
                return both("ladder", () -> x.ladder(l, what), () -> model.ladder(l, what));
            case 1:
                return both("rung", () -> x.rung(l, k), () -> model.rung(l, k));
            case 2:
                return both("man", () -> x.man(m, what), () -> model.man(m, what));
            case 3:
                return both("debt", () -> x.debt(m, o), () -> model.debt(m, o));
            case 4:
                return both("now", () -> x.now(what), () -> model.now(what));
            case 5, 6:
                both("price(" + m + ", " + n + ")", () -> x.price(m, n), () -> model.price(m, n));
                both("given", x::given, model::given);
                return 2 + both("cut", x::cut, model::cut);
            case 7:
                return both("height", () -> x.height(n), () -> model.height(n));
            case 8:
                return both("bear", x::bear, model::bear);
            case 9, 10:
                return both("test", () -> x.test(what, o), () -> model.test(what, o));
            case 11:
                return both("suspect", x::suspect, model::suspect);
            case 12, 13:
                return both("fire", () -> x.fire(m, n), () -> model.fire(m, n)) + both("wood", x::wood, model::wood);
            case 14:
                return both("broke", x::broke, model::broke);
            case 15:
                return both("bubbles", x::bubbles, model::bubbles);
            case 16:
                return both("struck", x::struck, model::struck) + both("fault", x::fault, model::fault);
            case 17:
                return both("stands", () -> x.stands(m), () -> model.stands(m));
            case 18:
                return both("cheapest", () -> x.cheapest(k), () -> model.cheapest(k));
            case 19:
                int seeds = what * 4;
                return both("odds", () -> x.odds(m, n, seeds, seed), () -> model.odds(m, n, seeds, seed));
            case 20:
                return both("said", () -> x.said(what), () -> model.said(what));
            default:
                return both("count", () -> x.count(what), () -> model.count(what));
        }
    }
}
