import java.nio.charset.StandardCharsets;
import java.util.Arrays;
import java.util.NoSuchElementException;

/** What the tests share: texts put on the tape, answers compared. */
final class Check {
    interface Call {
        int answer();
    }

    private static int wrong = 0;

    private Check() {
    }

    static void due(String what, long got, long want) {
        if (got != want) {
            wrong++;
            System.out.println(what + " answered " + got + ", due is " + want);
        }
    }

    static void due(String what, boolean got, boolean want) {
        due(what, got ? 1 : 0, want ? 1 : 0);
    }

    static void throwsNoSuch(String what, Call call) {
        try {
            int got = call.answer();
            wrong++;
            System.out.println(what + " answered " + got + ", due is a NoSuchElementException");
        } catch (NoSuchElementException e) {
            // as due
        }
    }

    /** A run of calls whose answers are due one by one. */
    static void row(String what, int[] got, int... want) {
        if (!Arrays.equals(got, want)) {
            wrong++;
            System.out.println(what + " answered " + Arrays.toString(got) + ", due is " + Arrays.toString(want));
        }
    }

    static void put(RungMoney x, String text) {
        putBytes(x, text.getBytes(StandardCharsets.ISO_8859_1));
    }

    static void putBytes(RungMoney x, byte[] bytes) {
        byte[] padded = Arrays.copyOf(bytes, (bytes.length + 19) / 20 * 20);
        for (int i = 0; i < padded.length; i += 20) {
            x.feed(number(padded, i), number(padded, i + 4), number(padded, i + 8), number(padded, i + 12),
                    number(padded, i + 16));
        }
        x.end(bytes.length);
    }

    private static int number(byte[] bytes, int at) {
        return (bytes[at] & 255) << 24 | (bytes[at + 1] & 255) << 16 | (bytes[at + 2] & 255) << 8 | bytes[at + 3] & 255;
    }

    static RungMoney townOf(String text) {
        RungMoney x = new RungMoney();
        put(x, text);
        int lines = x.town();
        if (lines < 0) {
            wrong++;
            System.out.println("the town " + text + " has a fault: " + lines);
        }
        return x;
    }

    static int town(RungMoney x, String text) {
        put(x, text);
        return x.town();
    }

    static int ledger(RungMoney x, int lives, String text) {
        put(x, text);
        return x.ledger(lives);
    }

    static int sentence(RungMoney x, String text) {
        put(x, text);
        return x.sentence();
    }

    static int forgers(RungMoney x, int... ladders) {
        byte[] bytes = new byte[ladders.length];
        for (int i = 0; i < ladders.length; i++) {
            bytes[i] = (byte) ladders[i];
        }
        putBytes(x, bytes);
        return x.forgers();
    }

    static String repeat(String text, int times) {
        return text.repeat(times);
    }

    /** Of a ladder its rungs as they would be told in a town. */
    static String rungs(RungMoney x, int l) {
        StringBuilder text = new StringBuilder();
        int kind = x.rung(l, 0);
        for (int k = 1; k < 33 && kind != RungMoney.NONE; k++) {
            text.append("srp".charAt(kind));
            kind = x.rung(l, k);
        }
        return text.toString();
    }

    static void rungs(RungMoney x, int l, String want) {
        String got = rungs(x, l);
        if (!got.equals(want)) {
            wrong++;
            System.out.println("ladder " + l + " has the rungs " + got + ", due are " + want);
        }
    }

    /** All that a caller can see of an object without changing it, but for what can be undone. */
    static String state(RungMoney x) {
        StringBuilder text = new StringBuilder(allSo(x));
        text.append("/ fault ").append(x.fault()).append(" tape ").append(x.count(3));
        text.append(" price ").append(x.given()).append(' ').append(x.cut()).append(" wood ").append(x.wood());
        text.append(" told");
        for (int what = 0; what < 4; what++) {
            text.append(' ').append(x.told(what));
        }
        int said = x.said(RungMoney.NONE);
        text.append(" said ").append(said).append(':');
        for (int k = 0; k < said; k++) {
            text.append(' ').append(x.said(k));
        }
        return text.toString();
    }

    /** The town and all that is so in it. */
    static String allSo(RungMoney x) {
        StringBuilder text = new StringBuilder();
        int ladders = x.count(1);
        for (int l = 0; l < ladders; l++) {
            text.append(rungs(x, l)).append(' ').append(x.ladder(l, 0)).append('/').append(x.ladder(l, 5)).append(' ');
        }
        int men = x.count(0);
        for (int m = 0; m < men; m++) {
            for (int o = 0; o < men; o++) {
                text.append(m == o ? "-" : x.debt(m, o)).append(' ');
            }
            text.append("pays ").append(x.man(m, 6)).append(' ');
        }
        for (int what = 0; what < 8; what++) {
            text.append(x.now(what)).append(' ');
        }
        return text.append("rot ").append(x.count(2)).toString();
    }

    static void same(String what, String got, String want) {
        if (!got.equals(want)) {
            wrong++;
            System.out.println(what + ": it is " + got + ", due is " + want);
        }
    }

    static void finish() {
        System.out.println(wrong == 0 ? "all answers are as due" : wrong + " answers are not as due");
        if (wrong != 0) {
            System.exit(1);
        }
    }
}
