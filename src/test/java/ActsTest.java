/** Promises 11 to 19: acts. */
public final class ActsTest {
    public static void main(String[] args) {
        pay();
        saw();
        splice();
        climb();
        tallest();
        burn();
        paint();
        taxes();
        winter();
        strike();
        Check.finish();
    }

    private static void pay() {
        RungMoney x = Check.townOf("man a;man b;man c;ladder a spr;ladder a rr;ladder b sss;debt a b 3;debt b c 3;");
        Check.row("no such ones, alike", new int[] {x.pay(0, 3, 1), x.pay(3, 0, 1), x.pay(0, 0, 3), x.pay(0, 0, 0),
            x.pay(-1, 0, 1), x.pay(0, -1, 1), x.pay(0, 0, -1)}, -1, -1, -1, -1, -1, -1, -1);
        Check.due("another one's", x.pay(0, 2, 1), 1);
        Check.due("another one's, nothing owed", x.pay(0, 2, 2), 1);
        Check.due("he owes nothing", x.pay(0, 0, 2), 2);
        Check.due("paid", x.pay(0, 0, 1), 0);
        Check.row("behind it", new int[] {x.debt(0, 1), x.ladder(0, 0), x.ladder(0, 5), x.man(0, 6), x.man(1, 6)},
                1, 1, 3, 1, 0);
        Check.due("one that looks nothing", x.pay(0, 1, 1), 0);
        Check.row("behind it", new int[] {x.debt(0, 1), x.ladder(1, 0), x.man(0, 6)}, 1, 1, 2);
        Check.due("just what is owed", x.pay(1, 2, 2), 0);
        Check.due("behind it", x.debt(1, 2), 0);
        Check.due("then he owes nothing", x.pay(1, 0, 2), 2);
        RungMoney y = Check.townOf("man a;man b;ladder a ppr;debt a b 1;");
        Check.due("it looks more", y.pay(0, 0, 1), 3);
        y.burn(0);
        Check.due("it is gone", y.pay(0, 0, 1), 1);
        Check.due("nothing was paid", y.man(0, 6), 0);
    }

    private static void saw() {
        RungMoney x = Check.townOf("man a;man b;ladder a srpss;ladder b s;debt a b 9;");
        Check.row("no such ones", new int[] {x.saw(2, 1), x.saw(-1, 1), x.saw(0, -1), x.saw(0, 32)}, -1, -1, -1, -1);
        Check.row("no such place", new int[] {x.saw(0, 0), x.saw(0, 5), x.saw(0, 6), x.saw(0, 31), x.saw(1, 1)},
                2, 2, 2, 2, 2);
        Check.due("sawn", x.saw(0, 2), 0);
        Check.rungs(x, 0, "sr");
        Check.rungs(x, 2, "pss");
        Check.row("behind it", new int[] {x.count(1), x.now(7), x.ladder(2, 0), x.ladder(2, 5)}, 3, 1, 0, 1);
        x.pay(0, 2, 1);
        Check.due("sawn", x.saw(2, 1), 0);
        Check.row("hands of the one from which it was", new int[] {x.ladder(3, 5), x.ladder(3, 0), x.ladder(0, 5)},
                3, 1, 1);
        x.burn(0);
        Check.due("gone", x.saw(0, 1), 1);
        Check.due("gone, and no such place", x.saw(0, 0), 1);

        RungMoney y = Check.townOf("man a;ladder a sss;" + Check.repeat("ladder a s;", 14));
        Check.due("the sixteenth", y.saw(0, 2), 0);
        Check.due("a seventeenth", y.saw(0, 1), 3);
        Check.due("no place is less than too many", y.saw(0, 0), 2);
        y.burn(15);
        Check.due("gone ones count", y.saw(0, 1), 3);
        Check.due("cuts", y.now(7), 1);
    }

    private static void splice() {
        RungMoney x = Check.townOf("man a;man b;ladder a sr;ladder a ps;ladder b s;debt a b 9;debt b a 9;");
        Check.row("no such ones", new int[] {x.splice(0, 3), x.splice(3, 0), x.splice(-1, 0), x.splice(0, -1)},
                -1, -1, -1, -1);
        Check.due("alike", x.splice(0, 0), 1);
        Check.due("two men's", x.splice(0, 2), 2);
        x.pay(1, 2, 0);
        Check.due("spliced", x.splice(0, 1), 0);
        Check.rungs(x, 0, "srps");
        Check.row("the second is gone", new int[] {x.ladder(1, 0), x.ladder(1, 1), x.now(1), x.count(1)}, -1, 0, 5, 3);
        Check.row("gone", new int[] {x.splice(0, 1), x.splice(1, 0), x.splice(1, 1)}, 1, 1, 1);
        Check.due("spliced", x.splice(0, 2), 0);
        Check.rungs(x, 0, "srpss");
        Check.row("hands of both", new int[] {x.ladder(0, 5), x.ladder(2, 5)}, 3, 3);

        RungMoney y = Check.townOf("man a;ladder a ssssssssssss;ladder a pppppppppppp;ladder a rrrrrrrs;ladder a s;");
        Check.due("24", y.splice(0, 1), 0);
        Check.due("32", y.splice(0, 2), 0);
        Check.due("33", y.splice(0, 3), 3);
        Check.row("the greatest", new int[] {y.ladder(0, 1), y.ladder(0, 2), y.ladder(0, 3), y.ladder(0, 4), y.rung(0, 31),
            y.rung(0, 32)}, 32, 25, 13, 12, 0, -1);
        Check.due("sawn above 31", y.saw(0, 31), 0);
        Check.rungs(y, 4, "s");
        Check.row("behind it", new int[] {y.ladder(0, 1), y.ladder(0, 3)}, 31, 12);
        Check.due("spliced again", y.splice(0, 4), 0);
        y.taxes();
        Check.row("behind taxes", new int[] {y.ladder(0, 1), y.ladder(0, 2), y.ladder(3, 0)}, 31, 24, -1);
    }

    private static void climb() {
        RungMoney x = Check.townOf("man a;man b;ladder a sspp;ladder a sss;ladder a srp;ladder a p;");
        Check.row("no such ones", new int[] {x.climb(2, 0), x.climb(0, 4), x.climb(-1, 0), x.climb(0, -1)},
                -1, -1, -1, -1);
        Check.due("up to the painted one", x.climb(0, 0), 2);
        Check.rungs(x, 0, "ssrp");
        Check.due("up to the rotten one", x.climb(0, 0), 2);
        Check.rungs(x, 0, "ssrp");
        Check.due("another one's, to the top", x.climb(1, 1), 3);
        Check.rungs(x, 1, "sss");
        Check.due("up to the rotten one", x.climb(1, 2), 1);
        Check.rungs(x, 2, "srp");
        Check.due("no rung up", x.climb(1, 3), 0);
        Check.rungs(x, 3, "r");
        x.burn(1);
        Check.due("gone", x.climb(0, 1), -2);
        Check.due("gone, no such man", x.climb(2, 1), -1);
    }

    /** One that has as many rungs as there may be, all sound. */
    private static RungMoney tallest(int rot) {
        RungMoney x = Check.townOf("man a;ladder a ssssssssssss;ladder a ssssssssssss;ladder a ssssssss;ladder a s;rot " + rot
                + ";");
        x.splice(0, 1);
        x.splice(0, 2);
        return x;
    }

    private static void tallest() {
        RungMoney x = tallest(12);
        Check.row("the tallest", new int[] {x.climb(0, 0), x.ladder(0, 4), x.man(0, 5), x.bear(), x.price(0, 31), x.cut()},
                32, 32, 32, 9, 101, 31);
        x.winter(1);
        Check.rungs(x, 0, Check.repeat("r", 32));
        Check.row("its top is painted", new int[] {x.paint(0, 31), x.rung(0, 31), x.ladder(0, 2), x.paint(0, 32)}, 0, 2, 1, -1);
        for (int seed = 0; seed < 20; seed++) {
            tallestInWinter(seed);
        }
    }

    private static void tallestInWinter(int seed) {
        RungMoney x = tallest(6);
        x.winter(seed);
        int drawn = seed;
        String want = "";
        for (int k = 0; k < 33; k++) {
            drawn = drawn * 1103515245 + 12345;
            want += (drawn >>> 8) % 12 < 6 ? 'r' : 's';
        }
        Check.rungs(x, 0, want.substring(0, 32));
        Check.rungs(x, 3, want.substring(32));
    }

    private static void burn() {
        RungMoney x = Check.townOf("man a;ladder a sr;ladder a s;");
        Check.row("no such one", new int[] {x.burn(2), x.burn(-1)}, -1, -1);
        Check.due("burnt", x.burn(0), 0);
        Check.row("behind it", new int[] {x.now(1), x.count(1), x.ladder(0, 0), x.ladder(0, 5), x.now(2)}, 2, 2, -1, 1, 0);
        Check.due("gone", x.burn(0), 1);
    }

    private static void paint() {
        RungMoney x = Check.townOf("man a;ladder a srp;");
        Check.row("no such ones", new int[] {x.paint(1, 0), x.paint(-1, 0), x.paint(0, -1), x.paint(0, 32)},
                -1, -1, -1, -1);
        Check.row("no such rung", new int[] {x.paint(0, 3), x.paint(0, 31)}, 2, 2);
        Check.row("not rotten", new int[] {x.paint(0, 0), x.paint(0, 2)}, 3, 3);
        Check.due("painted", x.paint(0, 1), 0);
        Check.rungs(x, 0, "spp");
        Check.due("not rotten any more", x.paint(0, 1), 3);
        x.burn(0);
        Check.row("gone", new int[] {x.paint(0, 1), x.paint(0, 9)}, 1, 1);
    }

    private static void taxes() {
        RungMoney x = Check.townOf("man a;ladder a srp;ladder a r;ladder a ss;");
        Check.due("taxes", x.taxes(), 0);
        Check.rungs(x, 0, "sr");
        Check.rungs(x, 2, "s");
        Check.row("behind them", new int[] {x.now(1), x.now(2), x.ladder(1, 0), x.ladder(1, 5)}, 5, 3, -1, 1);
        Check.row("taxes", new int[] {x.taxes(), x.taxes(), x.taxes()}, 0, 0, 1);
        Check.row("all are gone", new int[] {x.now(1), x.now(2), x.count(1)}, 0, 6, 3);
    }

    private static void winter() {
        // draws by seed 1: (x >>> 8) % 12 along 1103527590, 377401575, ..
        RungMoney x = Check.townOf("man a;ladder a sprs;ladder a ss;rot 6;");
        String want = "";
        int seed = 1;
        for (char c : "sprsss".toCharArray()) {
            if (c == 's') {
                seed = seed * 1103515245 + 12345;
                c = (seed >>> 8) % 12 < 6 ? 'r' : 's';
            }
            want += c;
        }
        Check.due("winter", x.winter(1), 0);
        Check.rungs(x, 0, want.substring(0, 4));
        Check.rungs(x, 1, want.substring(4));
        Check.due("winters", x.now(0), 1);
        RungMoney y = Check.townOf("man a;ladder a ssps;rot 12;");
        y.winter(-5);
        Check.rungs(y, 0, "rrpr");
        RungMoney z = Check.townOf("man a;ladder a ssps;rot 0;");
        for (int i = 0; i < 99; i++) {
            Check.due("winter", z.winter(i), 0);
        }
        Check.due("the hundredth", z.winter(0), 1);
        Check.due("winters", z.now(0), 99);
        Check.rungs(z, 0, "ssps");
    }

    private static void strike() {
        RungMoney x = Check.townOf("man a;man b;man c;man d;debt a b 5;debt b c 5;debt c a 5;debt d c 2;");
        Check.due("struck", x.struck(), 2);
        Check.due("strike", x.strike(), 15);
        Check.row("behind it", new int[] {x.debt(0, 1), x.debt(1, 2), x.debt(2, 0), x.debt(3, 2), x.now(3)}, 0, 0, 0, 2, 2);
        Check.due("nothing changes", x.strike(), -2);
        // all in all as much, but otherwise: a and b owe 3 and 4, c and d are owed 5 and 2
        RungMoney y = Check.townOf("man a;man b;man c;man d;debt a d 2;debt a c 1;debt b c 4;");
        Check.due("only changed", y.strike(), 0);
        Check.row("behind it", new int[] {y.debt(0, 2), y.debt(0, 3), y.debt(1, 2), y.debt(1, 3)}, 3, 0, 2, 2);
        Check.due("nothing changes", y.strike(), -2);
        RungMoney z = Check.townOf("man a;man b;man c;man d;debt a b 250;debt a c 250;debt d a 200;debt d c 100;");
        Check.due("less", z.strike(), 200);
        Check.row("behind it", new int[] {z.debt(0, 1), z.debt(0, 2), z.debt(3, 1), z.debt(3, 2)}, 250, 50, 0, 300);
        Check.row("each stands as before", new int[] {z.stands(0), z.stands(1), z.stands(2), z.stands(3)},
                -300, 250, 350, -300);
        Check.due("without debts", Check.townOf("man a;man b;").strike(), -2);
    }
}
