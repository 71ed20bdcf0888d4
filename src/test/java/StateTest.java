/** Promises 6 to 10 and 44: what is so. */
public final class StateTest {
    public static void main(String[] args) {
        ladders();
        rungs();
        men();
        debts();
        now();
        Check.finish();
    }

    private static void ladder(RungMoney x, int l, int... want) {
        int[] got = new int[6];
        for (int what = 0; what < 6; what++) {
            got[what] = x.ladder(l, what);
        }
        Check.row("ladder " + l, got, want);
    }

    private static void ladders() {
        RungMoney x = Check.townOf("man a;man b;ladder a ssrsp;ladder b ppp;ladder b ssssssssssss;ladder a r;");
        ladder(x, 0, 0, 5, 4, 3, 2, 1);
        ladder(x, 1, 1, 3, 3, 0, 0, 2);
        ladder(x, 2, 1, 12, 12, 12, 12, 2);
        ladder(x, 3, 0, 1, 0, 0, 0, 1);
        x.burn(2);
        ladder(x, 2, -1, 0, 0, 0, 0, 2);
        Check.throwsNoSuch("ladder(4, 0)", () -> x.ladder(4, 0));
        Check.throwsNoSuch("ladder(-1, 0)", () -> x.ladder(-1, 0));
        Check.throwsNoSuch("ladder(0, 6)", () -> x.ladder(0, 6));
        Check.throwsNoSuch("ladder(0, -1)", () -> x.ladder(0, -1));
        Check.throwsNoSuch("ladder(16, 0)", () -> x.ladder(16, 0));
        Check.throwsNoSuch("ladder(greatest, 0)", () -> x.ladder(Integer.MAX_VALUE, 0));
    }

    private static void rungs() {
        RungMoney x = Check.townOf("man a;ladder a srp;ladder a s;");
        Check.row("rungs", new int[] {x.rung(0, 0), x.rung(0, 1), x.rung(0, 2), x.rung(0, 3)}, 0, 1, 2, -1);
        Check.row("no such ones", new int[] {x.rung(0, -1), x.rung(2, 0), x.rung(-1, 0), x.rung(99, 0), x.rung(0, 99),
            x.rung(0, Integer.MIN_VALUE)}, -1, -1, -1, -1, -1, -1);
        x.burn(1);
        Check.due("a rung of one that is gone", x.rung(1, 0), -1);
    }

    private static void man(RungMoney x, int m, int... want) {
        int[] got = new int[7];
        for (int what = 0; what < 7; what++) {
            got[what] = x.man(m, what);
        }
        Check.row("man " + m, got, want);
    }

    private static void men() {
        RungMoney x = Check.townOf("man a;man b;man c;ladder a ssr;ladder b sssss;ladder a pss;ladder a s;"
                + "debt a b 9;debt a c 4;debt c a 2;");
        man(x, 0, 13, 6, 5, 13, 2, 2, 0);
        man(x, 1, 2, 5, 5, 0, 9, 5, 0);
        man(x, 2, 0, 0, 0, 2, 4, 0, 0);
        x.pay(0, 0, 1);
        x.pay(0, 3, 2);
        man(x, 0, 4, 3, 2, 10, 2, 0, 2);
        man(x, 1, 3, 7, 7, 0, 7, 5, 0);
        Check.row("no such ones", new int[] {x.man(3, 0), x.man(-1, 0), x.man(0, 7), x.man(0, -1), x.man(6, 6)},
                -1, -1, -1, -1, -1);
    }

    private static void debts() {
        RungMoney x = Check.townOf("man a;man b;man c;debt a b 9;debt c a 2;");
        Check.row("debts", new int[] {x.debt(0, 1), x.debt(1, 0), x.debt(2, 0), x.debt(1, 2)}, 9, 0, 2, 0);
        Check.row("no such ones, alike", new int[] {x.debt(0, 0), x.debt(0, 3), x.debt(3, 0), x.debt(-1, 0),
            x.debt(0, -1), x.debt(6, 7)}, -1, -1, -1, -1, -1, -1);
    }

    private static void now(RungMoney x, int... want) {
        int[] got = new int[8];
        for (int what = 0; what < 8; what++) {
            got[what] = x.now(what);
        }
        Check.row("now", got, want);
    }

    private static void now() {
        RungMoney x = Check.townOf("man a;man b;ladder a srp;ladder b pp;ladder b s;debt a b 9;debt b a 3;rot 0;");
        now(x, 0, 7, 0, 12, 5, 2, 3, 0);
        x.winter(5);
        x.saw(0, 1);
        x.taxes();
        now(x, 1, 10, 4, 12, 1, 0, 1, 1);
        Check.row("another what", new int[] {x.now(8), x.now(-1)}, -1, -1);
        Check.row("count", new int[] {x.count(0), x.count(1), x.count(2), x.count(3)}, 2, 4, 0, 0);
    }
}
