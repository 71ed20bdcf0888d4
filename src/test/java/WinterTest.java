/** Promises 36 and 37: winters by draws. */
public final class WinterTest {
    public static void main(String[] args) {
        drawn();
        odds();
        Check.finish();
    }

    private static int lastSeed;

    /** Rungs behind some winters, told anew by hand. */
    private static String behind(String rungs, int winters, int rot, int seed) {
        int x = seed;
        char[] c = rungs.toCharArray();
        for (int w = 0; w < winters; w++) {
            for (int i = 0; i < c.length; i++) {
                if (c[i] == 's') {
                    x = x * 1103515245 + 12345;
                    if ((x >>> 8) % 12 < rot) {
                        c[i] = 'r';
                    }
                }
            }
        }
        lastSeed = x;
        return new String(c);
    }

    private static void drawn() {
        for (int seed : new int[] {0, 1, -1, 99, Integer.MAX_VALUE, Integer.MIN_VALUE, 123456789}) {
            RungMoney x = Check.townOf("man a;man b;ladder a ssspssrss;ladder b sssssssss;rot 2;");
            Check.due("drawn", x.drawn(4, seed), 4);
            String want = behind("ssspssrss" + "sssssssss", 4, 2, seed);
            Check.rungs(x, 0, want.substring(0, 9));
            Check.rungs(x, 1, want.substring(9));
            Check.due("winters", x.now(0), 4);
            // one winter is as one that is drawn, and winters go on with it
            RungMoney y = Check.townOf("man a;ladder a ssssssssssss;rot 1;");
            RungMoney z = Check.townOf("man a;ladder a ssssssssssss;rot 1;");
            y.drawn(2, seed);
            z.winter(seed);
            behind("ssssssssssss", 1, 1, seed);
            z.drawn(1, lastSeed);
            Check.rungs(y, 0, Check.rungs(z, 0));
        }
        RungMoney x = Check.townOf("man a;ladder a s;rot 0;");
        Check.row("not as told", new int[] {x.drawn(0, 1), x.drawn(31, 1), x.drawn(-1, 1), x.now(0)}, -1, -1, -1, 0);
        Check.row("drawn", new int[] {x.drawn(30, 1), x.drawn(30, 1), x.drawn(30, 1), x.drawn(10, 1), x.drawn(1, 1),
            x.winter(1), x.now(0)}, 30, 30, 30, 9, 0, 1, 99);
        Check.row("one of none is not undone", new int[] {x.undo(), x.now(0), x.undo(), x.now(0)}, 3, 90, 2, 60);
    }

    private static void odds() {
        RungMoney x = Check.townOf("man a;man b;ladder a ssspssss;ladder b sss;ladder a ssssp;rot 1;");
        x.burn(1);
        x.winter(4);
        String now = Check.rungs(x, 0) + Check.rungs(x, 2);
        for (int seed : new int[] {0, 7, -3, Integer.MAX_VALUE - 4}) {
            for (int w = 0; w <= 14; w++) {
                int times = 0;
                for (int i = 0; i < 30; i++) {
                    String left = behind(now, 5, 1, seed + i);
                    times += left.length() - left.replace("s", "").replace("p", "").length() >= w ? 1 : 0;
                }
                Check.due("odds", x.odds(0, w, 30, seed), times);
            }
        }
        Check.row("nothing changed", new int[] {x.now(0), x.undo(), x.undo(), x.undo()}, 1, 1, 0, -1);
        Check.row("edges", new int[] {x.odds(0, 0, 1, 5), x.odds(0, 500, 30, 5), x.odds(1, 0, 30, 5), x.odds(0, 2, 9, 5)},
                1, 0, 30, 9);
        Check.row("no such ones", new int[] {x.odds(2, 0, 1, 5), x.odds(-1, 0, 1, 5), x.odds(0, -1, 1, 5),
            x.odds(0, 501, 1, 5), x.odds(0, 0, 0, 5), x.odds(0, 0, 31, 5)}, -1, -1, -1, -1, -1, -1);
    }
}
