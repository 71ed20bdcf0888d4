/** Promises 21 to 35: questions that change nothing. */
public final class QuestionsTest {
    public static void main(String[] args) {
        price();
        height();
        test();
        suspect();
        fire();
        broke();
        forgers();
        struckAndStands();
        cheapest();
        Check.finish();
    }

    private static void price(RungMoney x, int m, int n, int... want) {
        Check.row("price(" + m + ", " + n + "), given(), cut()", new int[] {x.price(m, n), x.given(), x.cut()}, want);
    }

    private static void price() {
        RungMoney x = Check.townOf("man a;man b;man c;ladder a sss;ladder b ssssss;ladder a rsrprs;ladder a pp;ladder a rr;"
                + "ladder a ssss;");
        // a's ladders 0, 2, 3, 4, 5 look 3, 3, 2, 0, 4
        price(x, 0, 2, 1, 8, -1);
        price(x, 0, 3, 1, 1, -1);
        price(x, 0, 4, 1, 32, -1);
        price(x, 0, 5, 2, 9, -1);
        price(x, 0, 6, 2, 5, -1);
        price(x, 0, 7, 2, 33, -1);
        price(x, 0, 8, 3, 13, -1);
        price(x, 0, 9, 3, 41, -1);
        price(x, 0, 11, 104, 45, 2);
        price(x, 0, 12, 4, 45, -1);
        price(x, 0, 1, 101, 1, 1);
        price(x, 0, 13, -1, 1, 1);
        Check.row("no such ones", new int[] {x.price(3, 1), x.price(-1, 1), x.price(0, 0), x.price(0, 501), x.price(0, -1),
            x.price(2, 1), x.price(0, 500)}, -1, -1, -1, -1, -1, -1, -1);
        price(x, 1, 5, 101, 2, 105);
        // the part from the foot, above the fewest rungs that look as much
        RungMoney y = Check.townOf("man a;ladder a rrsrrps;");
        price(y, 0, 1, 101, 1, 3);
        price(y, 0, 2, 101, 1, 6);
        price(y, 0, 3, 1, 1, -1);
        // fewer ladders go ahead of less bits
        RungMoney z = Check.townOf("man a;ladder a ss;ladder a ss;ladder a sssss;");
        price(z, 0, 3, 101, 4, 203);
        price(z, 0, 8, 103, 7, 1);
        price(z, 0, 6, 102, 5, 1);
        z.burn(2);
        price(z, 0, 5, -1, 5, 1);
        price(z, 0, 1, 101, 1, 1);
        // a cut is told though there are sixteen ladders, and nothing is cut by telling
        RungMoney full = Check.townOf("man a;" + Check.repeat("ladder a sssssssssssp;", 16));
        price(full, 0, 191, 116, 65535, 11);
        price(full, 0, 192, 16, 65535, -1);
        price(full, 0, 193, -1, 65535, -1);
        price(full, 0, 25, 103, 7, 1);
        price(full, 0, 24, 2, 3, -1);
        Check.row("nothing changed", new int[] {full.now(7), full.count(1), full.ladder(0, 1)}, 0, 16, 12);
        full.undo();
        Check.town(full, "");
        Check.row("a new town leaves what was told", new int[] {full.given(), full.cut()}, 3, -1);
    }

    private static void height() {
        RungMoney x = Check.townOf("man a;man b;ladder a sss;ladder b sssss;ladder a ssss;ladder a ssrs;ladder b ssspssss;");
        Check.due("bear", x.bear(), 7);
        Check.row("height", new int[] {x.height(1), x.height(5), x.height(6), x.height(9), x.height(10), x.height(12),
            x.height(13)}, 1, 1, 2, 2, 3, 3, -1);
        Check.row("no such one", new int[] {x.height(0), x.height(-1), x.height(501), x.height(500)}, -1, -1, -1, -1);
        x.burn(1);
        Check.row("behind a fire", new int[] {x.bear(), x.height(5), x.height(7), x.height(8)}, 5, 2, 2, -1);
        RungMoney full = Check.townOf("man a;" + Check.repeat("ladder a ssssssssssss;", 16));
        RungMoney low = Check.townOf("man a;ladder a r;ladder a s;ladder a s;");
        Check.row("one rung each", new int[] {low.bear(), low.height(2), low.height(3)}, 6, 2, -1);
        Check.row("all of them", new int[] {full.bear(), full.height(192), full.height(193)}, 65535, 16, -1);
    }

    private static void test(RungMoney x, int n, int above, int below) {
        Check.row("test(" + n + ", ..)", new int[] {x.test(n, 0), x.test(n, 1)}, above, below);
    }

    private static void test() {
        RungMoney x = Check.townOf("man a;ladder a ssp;ladder a srsp;");
        test(x, 1, 1, 3);
        test(x, 2, 3, 5);
        test(x, 3, 4, 5);
        Check.throwsNoSuch("test(0, 0)", () -> x.test(0, 0));
        Check.throwsNoSuch("test(4, 0)", () -> x.test(4, 0));
        Check.throwsNoSuch("test(1, 2)", () -> x.test(1, 2));
        Check.throwsNoSuch("test(1, -1)", () -> x.test(1, -1));
        RungMoney sound = Check.townOf("man a;ladder a ssr;");
        test(sound, 1, 0, 1);
        test(sound, 2, 0, 1);
        Check.throwsNoSuch("not as many", () -> sound.test(3, 0));
        RungMoney painted = Check.townOf("man a;ladder a ppps;");
        test(painted, 2, 1, 1);
        test(painted, 3, 1, 1);
        test(painted, 1, 3, 4);
        RungMoney full = Check.townOf("man a;ladder a psssssssssss;" + Check.repeat("ladder a ssssssssssss;", 15));
        test(full, 3, 1, 64);
        test(full, 1, 1, 192);
        RungMoney rotten = Check.townOf("man a;ladder a rrrr;");
        Check.throwsNoSuch("none looks sound", () -> rotten.test(1, 0));
    }

    private static void suspect() {
        Check.due("none is painted", Check.townOf("man a;ladder a sr;ladder a rr;").suspect(), -1);
        Check.due("half and two thirds", Check.townOf("man a;ladder a spr;ladder a pps;ladder a sssp;").suspect(), 1);
        Check.due("of like ones the first", Check.townOf("man a;ladder a s;ladder a spsp;ladder a ps;").suspect(), 1);
        Check.due("the first of all", Check.townOf("man a;ladder a ps;ladder a ss;").suspect(), 0);
        Check.due("rotten ones do not count", Check.townOf("man a;ladder a pps;ladder a rrrp;").suspect(), 1);
        RungMoney x = Check.townOf("man a;ladder a p;ladder a ps;");
        x.burn(0);
        Check.due("one that is gone is none", x.suspect(), 1);
    }

    private static void fire(RungMoney x, int m, int n, int looks, int wood) {
        Check.row("fire(" + m + ", " + n + "), wood()", new int[] {x.fire(m, n), x.wood()}, looks, wood);
    }

    private static void fire() {
        RungMoney x = Check.townOf("man a;man b;ladder a sss;ladder a srr;ladder b rrrr;ladder a rp;ladder a rr;ladder a sr;");
        // a's 0, 1, 3, 4, 5 have 3, 3, 2, 2, 2 rungs and look 3, 1, 1, 0, 1
        fire(x, 0, 1, 0, 16);
        fire(x, 0, 2, 0, 16);
        fire(x, 0, 3, 1, 2);
        fire(x, 0, 5, 1, 18);
        fire(x, 0, 6, 2, 26);
        fire(x, 0, 8, 3, 58);
        fire(x, 0, 12, 6, 59);
        fire(x, 0, 13, -1, 59);
        fire(x, 1, 4, 0, 4);
        Check.row("no such ones", new int[] {x.fire(2, 1), x.fire(-1, 1), x.fire(0, 0), x.fire(0, 501), x.fire(0, 500)},
                -1, -1, -1, -1, -1);
        Check.due("wood stays", x.wood(), 4);
        // one that looks nothing is left, where less bits do
        RungMoney y = Check.townOf("man a;ladder a s;ladder a s;ladder a rr;");
        fire(y, 0, 2, 0, 4);
        fire(y, 0, 3, 1, 5);
        y.burn(2);
        fire(y, 0, 2, 2, 3);
        Check.town(y, "");
        Check.due("a new town leaves what was told", y.wood(), 3);
    }

    private static void broke() {
        // a breaks at once, then b whom a owes, then c whom b owes; d has enough
        RungMoney x = Check.townOf("man a;man b;man c;man d;ladder d sss;debt a b 5;debt b c 5;debt c d 5;debt d a 3;");
        Check.row("broke, bubbles", new int[] {x.broke(), x.bubbles()}, 7, 0);
        RungMoney y = Check.townOf("man a;man b;man c;ladder a spp;ladder b s;debt a b 3;debt b c 2;");
        Check.row("only by worth", new int[] {y.broke(), y.bubbles()}, 0, 3);
        RungMoney z = Check.townOf("man a;man b;debt a b 5;debt b a 5;");
        Check.row("in a round nobody breaks", new int[] {z.broke(), z.bubbles()}, 0, 0);
        RungMoney all = Check.townOf("man a;man b;man c;man d;man e;man f;ladder a pppp;debt a b 5;debt b c 5;debt c d 5;"
                + "debt d e 5;debt e f 5;debt f a 1;");
        Check.row("just enough", new int[] {all.broke(), all.bubbles()}, 0, 63);
        RungMoney more = Check.townOf("man a;man b;man c;man d;man e;man f;ladder a ppp;debt a b 5;debt b c 5;debt c d 5;"
                + "debt d e 5;debt e f 5;debt f a 1;");
        Check.row("one too few", new int[] {more.broke(), more.bubbles()}, 63, 0);
    }

    private static void forgers() {
        RungMoney x = Check.townOf("man a;man b;man c;ladder a s;ladder b s;ladder c ss;debt a b 9;debt b c 9;debt c a 9;");
        Check.row("each its own", new int[] {Check.forgers(x, 0), Check.forgers(x, 1), Check.forgers(x, 0, 1)}, 1, 2, 0);
        x.pay(0, 0, 1);
        Check.row("through two hands", new int[] {Check.forgers(x, 0), Check.forgers(x, 0, 1), Check.forgers(x, 1, 1, 0)},
                3, 2, 2);
        x.pay(1, 0, 2);
        x.splice(2, 0);
        Check.row("of both", new int[] {Check.forgers(x, 2), Check.forgers(x, 0), Check.forgers(x, 0, 1, 2)}, 7, 7, 2);
        x.burn(2);
        Check.due("of one that is gone", Check.forgers(x, 2), 7);
        Check.row("not as told", new int[] {x.forgers(), Check.forgers(x, 3), Check.forgers(x, 0, 255),
            Check.forgers(x, 0, 0, 0, 0, 0, 0, 0, 0, 0, 0, 0, 0, 0, 0, 0, 0, 0)}, -1, -1, -1, -1);
        Check.due("sixteen", Check.forgers(x, 0, 0, 0, 0, 0, 0, 0, 0, 0, 0, 0, 0, 0, 0, 0, 0), 7);
    }

    private static void struckAndStands() {
        RungMoney x = Check.townOf("man a;man b;man c;debt a b 9;debt b c 4;debt c b 1;");
        Check.row("stands", new int[] {x.stands(0), x.stands(1), x.stands(2)}, -9, 6, 3);
        Check.due("struck", x.struck(), 9);
        Check.due("nothing changed", x.now(3), 14);
        Check.throwsNoSuch("stands(3)", () -> x.stands(3));
        Check.throwsNoSuch("stands(-1)", () -> x.stands(-1));
    }

    private static void cheapest() {
        RungMoney x = Check.townOf("man a;ladder a ssss;ladder a ss;ladder a srs;ladder a p;");
        Check.row("cheapest", new int[] {x.cheapest(1), x.cheapest(2), x.cheapest(3), x.cheapest(4), x.cheapest(5)},
                2, 2, 4, 4, -1);
        Check.row("no such one", new int[] {x.cheapest(0), x.cheapest(33), x.cheapest(-1), x.cheapest(32)}, -1, -1, -1, -1);
        x.burn(1);
        Check.due("behind a fire", x.cheapest(1), 4);
        RungMoney tall = Check.townOf("man a;ladder a ssssssssssss;ladder a ssssssssssss;ladder a ssssssss;");
        tall.splice(0, 1);
        tall.splice(0, 2);
        Check.row("the tallest", new int[] {tall.cheapest(32), tall.cheapest(1), tall.height(32)}, 32, 32, 1);
    }
}
