/**
 * Boundary cases of acts, of what undoes them, and of images: promises 11 to 20, 36, 42, 43, and part 2 of the document.
 * Each method has one sentence of the document, whose words stand above it.
 */
public final class EdgesOfActsTest {
    private static final int[] FAR = {-1, -2, 32, 64, Integer.MIN_VALUE, Integer.MAX_VALUE, 1 << 16, 1 << 31 | 1};

    public static void main(String[] args) {
        pay();
        saw();
        splice();
        climb();
        burn();
        paint();
        taxes();
        winter();
        strike();
        drawn();
        undo();
        images();
        Check.finish();
    }

    private interface Act {
        int answer(RungMoney x);
    }

    /** An act that is refused: it answers so, changes nothing that is seen, and takes no place among those undone. */
    private static void refused(String what, RungMoney x, Act act, int want) {
        String before = Check.state(x);
        Check.due(what, act.answer(x), want);
        Check.same("behind a refused " + what, Check.state(x), before);
    }

    private static void nothingToUndo(String what, RungMoney x) {
        Check.due("undo() behind refused calls of " + what, x.undo(), -1);
    }

    // ---- promise 11 ----

    private static RungMoney payers() {
        return Check.townOf("man a;man b;man c;ladder a sp;ladder a r;ladder b s;ladder a sss;debt a b 2;debt b a 9;");
    }

    private static void pay() {
        payNoSuchOnes();
        payAlike();
        payGoneOrAnothers();
        payOwesNothing();
        payLooksMore();
        payTheLeast();
        payNothing();
    }

    /** "NONE: no such ones" */
    private static void payNoSuchOnes() {
        RungMoney x = payers();
        String before = Check.state(x);
        for (int far : FAR) {
            Check.due("pay(" + far + ", 0, 1)", x.pay(far, 0, 1), -1);
            Check.due("pay(0, " + far + ", 1)", x.pay(0, far, 1), -1);
            Check.due("pay(0, 0, " + far + ")", x.pay(0, 0, far), -1);
        }
        Check.due("pay(3, 0, 1)", x.pay(3, 0, 1), -1);
        Check.due("pay(0, 0, 3)", x.pay(0, 0, 3), -1);
        Check.due("pay(0, 4, 1)", x.pay(0, 4, 1), -1);
        Check.same("behind them all", Check.state(x), before);
        refused("pay in an empty town", new RungMoney(), y -> y.pay(0, 0, 1), -1);
        nothingToUndo("pay", x);
        Check.due("the last LADDER and the last MAN are such ones", x.pay(2, 3, 0), 1);
    }

    /** "alike" */
    private static void payAlike() {
        RungMoney x = payers();
        refused("pay(0, 0, 0)", x, y -> y.pay(0, 0, 0), -1);
        refused("pay(2, 2, 2)", x, y -> y.pay(2, 2, 2), -1);
    }

    /** "1 it is gone, or another one's" */
    private static void payGoneOrAnothers() {
        RungMoney x = payers();
        refused("pay with another one's", x, y -> y.pay(0, 2, 1), 1);
        x.burn(0);
        refused("pay with one that is gone", x, y -> y.pay(0, 0, 1), 1);
        Check.due("undo() of the burning alone", x.undo(), 0);
        x.pay(0, 0, 1);
        refused("pay with it once more", x, y -> y.pay(0, 0, 1), 1);
    }

    /** "2 he owes him nothing" */
    private static void payOwesNothing() {
        RungMoney x = payers();
        refused("pay whom he owes nothing", x, y -> y.pay(0, 0, 2), 2);
        Check.due("the debt is paid", x.pay(0, 0, 1), 0);
        refused("pay when he owes nothing any more", x, y -> y.pay(0, 1, 1), 2);
        RungMoney y = Check.townOf("man a;man b;ladder b s;debt a b 5;");
        refused("pay who owes oneself", y, z -> z.pay(1, 0, 0), 2);
    }

    /** "3 it LOOKS more than he owes him" */
    private static void payLooksMore() {
        RungMoney x = payers();
        refused("pay with one that looks 3 of 2", x, y -> y.pay(0, 3, 1), 3);
        Check.due("pay with one that looks 2 of 2", x.pay(0, 0, 1), 0);
        Check.row("behind it", new int[] {x.debt(0, 1), x.ladder(0, 0), x.man(0, 6)}, 0, 1, 1);
        RungMoney y = Check.townOf("man a;man b;ladder a pp;debt a b 1;");
        refused("pay with one that looks 2 of 1", y, z -> z.pay(0, 0, 1), 3);
        y.climb(0, 0);
        Check.due("pay when it looks 1 of 1", y.pay(0, 0, 1), 0);
    }

    /** "why not, the least" */
    private static void payTheLeast() {
        RungMoney x = Check.townOf("man a;man b;man c;ladder b ss;ladder a ss;debt a b 1;");
        refused("another one's, nothing owed, too much", x, y -> y.pay(0, 0, 2), 1);
        refused("another one's, too much", x, y -> y.pay(0, 0, 1), 1);
        refused("nothing owed, too much", x, y -> y.pay(0, 1, 2), 2);
        refused("too much", x, y -> y.pay(0, 1, 1), 3);
    }

    /** "what is owed is as much less": by nothing for one that looks nothing. */
    private static void payNothing() {
        RungMoney x = payers();
        Check.due("pay with one that looks nothing", x.pay(0, 1, 1), 0);
        Check.row("behind it", new int[] {x.debt(0, 1), x.ladder(1, 0), x.ladder(1, 5), x.man(0, 6), x.undo()}, 2, 1, 3, 1, 0);
        Check.row("and undone", new int[] {x.ladder(1, 0), x.ladder(1, 5), x.man(0, 6)}, 0, 1, 0);
    }

    // ---- promise 12 ----

    private static void saw() {
        sawNoSuchOnes();
        sawGone();
        sawPlaces();
        sawSixteen();
        sawTheLeast();
        sawTallest();
    }

    /** "A LADDER is SAWN above K (0 to 31) RUNGS .. NONE: no such ones" */
    private static void sawNoSuchOnes() {
        RungMoney x = payers();
        String before = Check.state(x);
        for (int far : FAR) {
            Check.due("saw(" + far + ", 1)", x.saw(far, 1), -1);
            Check.due("saw(0, " + far + ")", x.saw(0, far), -1);
        }
        Check.due("saw(4, 1)", x.saw(4, 1), -1);
        Check.due("saw(0, 32)", x.saw(0, 32), -1);
        Check.due("saw(0, 31)", x.saw(0, 31), 2);
        Check.same("behind them all", Check.state(x), before);
        x.burn(0);
        refused("saw(0, 32) of one that is gone", x, y -> y.saw(0, 32), -1);
        refused("saw in an empty town", new RungMoney(), y -> y.saw(0, 1), -1);
        Check.due("undo() of the burning alone", x.undo(), 0);
    }

    /** "1 it is gone" */
    private static void sawGone() {
        RungMoney x = payers();
        x.burn(3);
        refused("saw of one that is gone", x, y -> y.saw(3, 1), 1);
        x.splice(0, 1);
        refused("saw of one that was spliced onto another", x, y -> y.saw(1, 1), 1);
    }

    /** "2 K is 0, or as long as it is, or longer" */
    private static void sawPlaces() {
        RungMoney x = payers();
        refused("saw above 0", x, y -> y.saw(3, 0), 2);
        refused("saw above as long as it is", x, y -> y.saw(3, 3), 2);
        refused("saw above longer", x, y -> y.saw(3, 4), 2);
        refused("saw of one that has one RUNG", x, y -> y.saw(2, 1), 2);
        nothingToUndo("saw", x);
        Check.due("saw above one less", x.saw(3, 2), 0);
        Check.rungs(x, 3, "ss");
        Check.rungs(x, 4, "s");
        Check.due("saw above 1", x.saw(0, 1), 0);
        Check.rungs(x, 0, "s");
        Check.rungs(x, 5, "p");
    }

    /** "3 there are 16 LADDERS (gone ones, too)" */
    private static void sawSixteen() {
        RungMoney x = Check.townOf("man a;ladder a ssss;" + "ladder a s;".repeat(14));
        Check.row("the sixteenth", new int[] {x.saw(0, 3), x.count(1), x.now(7)}, 0, 16, 1);
        refused("a seventeenth", x, y -> y.saw(0, 1), 3);
        x.burn(15);
        Check.due("a seventeenth, one gone", x.saw(0, 1), 3);
        for (int l = 1; l < 15; l++) {
            x.burn(l);
        }
        Check.due("a seventeenth, all others gone", x.saw(0, 1), 3);
        Check.due("cuts", x.now(7), 1);
    }

    /** "why not, the least" */
    private static void sawTheLeast() {
        RungMoney x = Check.townOf("man a;" + "ladder a ss;".repeat(16));
        Check.due("no place, sixteen", x.saw(0, 2), 2);
        Check.due("no place, sixteen", x.saw(0, 0), 2);
        x.burn(0);
        Check.due("gone, no place, sixteen", x.saw(0, 0), 1);
        Check.due("gone, sixteen", x.saw(0, 1), 1);
    }

    /** One of 24 sp, 7 r and an s: as long as one may be. */
    private static RungMoney tallest() {
        RungMoney x = Check.townOf("man a;ladder a spspspspspsp;ladder a spspspspspsp;ladder a rrrrrrrs;ladder a p;rot 12;");
        x.splice(0, 1);
        x.splice(0, 2);
        return x;
    }

    /** "RUNG k from the foot: 0, 1, ..; 32 at most" */
    private static void sawTallest() {
        for (int k : new int[] {1, 15, 16, 17, 30, 31}) {
            RungMoney x = tallest();
            String rungs = "sp".repeat(12) + "rrrrrrrs";
            Check.rungs(x, 0, rungs);
            Check.due("saw above " + k, x.saw(0, k), 0);
            Check.rungs(x, 0, rungs.substring(0, k));
            Check.rungs(x, 4, rungs.substring(k));
            int below = rungs.substring(0, k).replace("r", "").length();
            Check.row("what they look", new int[] {x.ladder(0, 2), x.ladder(4, 2)}, below, 25 - below);
            Check.due("spliced again", x.splice(0, 4), 0);
            Check.rungs(x, 0, rungs);
            Check.row("what it looks, is worth", new int[] {x.ladder(0, 2), x.ladder(0, 3)}, 25, 13);
        }
        // the 32nd is painted
        RungMoney y = Check.townOf("man a;ladder a rrrrrrrrrrrr;ladder a rrrrrrrrrrrr;ladder a rrrrrrrp;");
        y.splice(0, 1);
        y.splice(0, 2);
        Check.row("the one above 16", new int[] {y.saw(0, 16), y.ladder(3, 1), y.ladder(3, 2), y.rung(3, 15), y.suspect()},
                0, 16, 1, 2, 3);
    }

    // ---- promise 13 ----

    private static void splice() {
        spliceNoSuchOnes();
        spliceGoneOrAlike();
        spliceTwoMen();
        splice32();
        spliceTheLeast();
    }

    /** "NONE: no such ones" */
    private static void spliceNoSuchOnes() {
        RungMoney x = payers();
        String before = Check.state(x);
        for (int far : FAR) {
            Check.due("splice(" + far + ", 0)", x.splice(far, 0), -1);
            Check.due("splice(0, " + far + ")", x.splice(0, far), -1);
            Check.due("splice(" + far + ", " + far + ")", x.splice(far, far), -1);
        }
        Check.due("splice(0, 4)", x.splice(0, 4), -1);
        Check.due("splice(4, 0)", x.splice(4, 0), -1);
        Check.same("behind them all", Check.state(x), before);
        nothingToUndo("splice", x);
        Check.due("the last one is such a one", x.splice(0, 3), 0);
    }

    /** "1 one is gone, or they are alike" */
    private static void spliceGoneOrAlike() {
        RungMoney x = payers();
        refused("splice of alike ones", x, y -> y.splice(0, 0), 1);
        x.burn(1);
        refused("splice of the second gone", x, y -> y.splice(0, 1), 1);
        refused("splice of the first gone", x, y -> y.splice(1, 0), 1);
        refused("splice of alike ones that are gone", x, y -> y.splice(1, 1), 1);
    }

    /** "2 two MEN have them" */
    private static void spliceTwoMen() {
        RungMoney x = payers();
        refused("splice of two MEN's", x, y -> y.splice(0, 2), 2);
        refused("splice of two MEN's", x, y -> y.splice(2, 0), 2);
        x.pay(1, 2, 0);
        Check.row("when one has both", new int[] {x.splice(0, 2), x.ladder(0, 5), x.ladder(2, 0)}, 0, 3, -1);
    }

    /** "3 more than 32 RUNGS" */
    private static void splice32() {
        RungMoney x = tallest();
        Check.due("32 RUNGS", x.ladder(0, 1), 32);
        refused("splice to 33 RUNGS", x, y -> y.splice(0, 3), 3);
        refused("splice to 33 RUNGS, the longer one above", x, y -> y.splice(3, 0), 3);
        x.taxes();
        Check.row("31 RUNGS, and the small one is gone", new int[] {x.ladder(0, 1), x.ladder(3, 0)}, 31, -1);
        RungMoney y = Check.townOf("man a;ladder a ssssssssssss;ladder a ssssssssssss;ladder a ssssssss;ladder a p;");
        y.splice(0, 1);
        y.saw(2, 7);
        Check.row("31, then 32", new int[] {y.splice(0, 2), y.ladder(0, 1), y.splice(0, 3), y.ladder(0, 1), y.rung(0, 31),
            y.splice(0, 4)}, 0, 31, 0, 32, 2, 3);
    }

    /** "why not, the least" */
    private static void spliceTheLeast() {
        RungMoney x = Check.townOf("man a;man b;ladder a ssssssssssss;ladder a ssssssssssss;ladder a sssssssss;ladder a s;"
                + "ladder b ssssssssssss;");
        x.splice(0, 1);
        Check.due("two MEN's, too many RUNGS", x.splice(0, 4), 2);
        Check.due("too many RUNGS", x.splice(0, 2), 3);
        x.burn(4);
        Check.due("gone, another one's", x.splice(0, 4), 1);
        Check.due("alike, too many RUNGS", x.splice(0, 0), 1);
    }

    // ---- promise 14 ----

    private static void climb() {
        climbNoSuchOnes();
        climbGone();
        climbFirstNotSound();
        climbPainted();
    }

    /** "NONE: no such ones" */
    private static void climbNoSuchOnes() {
        RungMoney x = payers();
        String before = Check.state(x);
        for (int far : FAR) {
            Check.due("climb(" + far + ", 0)", x.climb(far, 0), -1);
            Check.due("climb(0, " + far + ")", x.climb(0, far), -1);
        }
        Check.due("climb(3, 0)", x.climb(3, 0), -1);
        Check.due("climb(0, 4)", x.climb(0, 4), -1);
        Check.same("behind them all", Check.state(x), before);
        nothingToUndo("climb", x);
        Check.due("the last ones are such ones", x.climb(2, 3), 3);
    }

    /** "-2: it is gone" */
    private static void climbGone() {
        RungMoney x = payers();
        x.burn(0);
        refused("climb of one that is gone", x, y -> y.climb(0, 0), -2);
        refused("climb of one that is gone by no such one", x, y -> y.climb(3, 0), -1);
        Check.due("undo() of the burning alone", x.undo(), 0);
    }

    /** "up to the first RUNG that is not sound": none, some, all */
    private static void climbFirstNotSound() {
        RungMoney x = Check.townOf("man a;ladder a rss;ladder a srs;ladder a ssr;ladder a sss;ladder a s;ladder a r;");
        Check.row("climb", new int[] {x.climb(0, 0), x.climb(0, 1), x.climb(0, 2), x.climb(0, 3), x.climb(0, 4),
            x.climb(0, 5)}, 0, 1, 2, 3, 1, 0);
        Check.due("nothing changed, but each can be undone", x.undo(), 5);
        RungMoney y = Check.townOf("man a;ladder a ssssssssssss;ladder a ssssssssssss;ladder a ssssssss;");
        y.splice(0, 1);
        y.splice(0, 2);
        Check.due("climb of 32 sound RUNGS", y.climb(0, 0), 32);
    }

    /** "if that is painted, it is rotten from then on" */
    private static void climbPainted() {
        RungMoney x = Check.townOf("man a;ladder a pp;ladder a sp;ladder a srp;");
        Check.row("climb", new int[] {x.climb(0, 0), x.climb(0, 0), x.climb(0, 1), x.climb(0, 2)}, 0, 0, 1, 1);
        Check.rungs(x, 0, "rp");
        Check.rungs(x, 1, "sr");
        Check.rungs(x, 2, "srp");
        RungMoney y = Check.townOf("man a;ladder a ssssssssssss;ladder a ssssssssssss;ladder a sssssssp;");
        y.splice(0, 1);
        y.splice(0, 2);
        Check.row("the 32nd RUNG", new int[] {y.climb(0, 0), y.rung(0, 31), y.ladder(0, 2), y.ladder(0, 1)}, 31, 1, 31, 32);
    }

    // ---- promises 15 and 16 ----

    private static void burn() {
        burnNoSuchOne();
        burnGone();
    }

    /** "NONE: no such one" */
    private static void burnNoSuchOne() {
        RungMoney x = payers();
        String before = Check.state(x);
        for (int far : FAR) {
            Check.due("burn(" + far + ")", x.burn(far), -1);
        }
        Check.due("burn(4)", x.burn(4), -1);
        Check.same("behind them all", Check.state(x), before);
        nothingToUndo("burn", x);
        Check.due("the last one is such a one", x.burn(3), 0);
    }

    /** "To BURN: 1 it is gone: it is gone" */
    private static void burnGone() {
        RungMoney x = payers();
        Check.due("burn", x.burn(0), 0);
        Check.row("it is gone", new int[] {x.ladder(0, 0), x.ladder(0, 1), x.ladder(0, 2), x.ladder(0, 3), x.ladder(0, 4),
            x.rung(0, 0), x.now(1), x.now(2), x.count(1)}, -1, 0, 0, 0, 0, -1, 14, 0, 4);
        refused("burn of one that is gone", x, y -> y.burn(0), 1);
        Check.due("undo() of the first alone", x.undo(), 0);
    }

    private static void paint() {
        paintNoSuchOnes();
        paintGone();
        paintNoSuchRung();
        paintNotRotten();
        paintTopOfTallest();
    }

    /** "RUNG K (0 to 31) is PAINTED .. NONE: no such ones" */
    private static void paintNoSuchOnes() {
        RungMoney x = payers();
        String before = Check.state(x);
        for (int far : FAR) {
            Check.due("paint(" + far + ", 0)", x.paint(far, 0), -1);
            Check.due("paint(1, " + far + ")", x.paint(1, far), -1);
        }
        Check.due("paint(4, 0)", x.paint(4, 0), -1);
        Check.due("paint(1, 32)", x.paint(1, 32), -1);
        Check.due("paint(1, 31)", x.paint(1, 31), 2);
        Check.same("behind them all", Check.state(x), before);
        nothingToUndo("paint", x);
    }

    /** "1 it is gone" */
    private static void paintGone() {
        RungMoney x = payers();
        x.burn(1);
        refused("paint of one that is gone", x, y -> y.paint(1, 0), 1);
        refused("paint of no RUNG of one that is gone", x, y -> y.paint(1, 9), 1);
        refused("paint of no such RUNG of one that is gone", x, y -> y.paint(1, 32), -1);
    }

    /** "2 it has no such RUNG" */
    private static void paintNoSuchRung() {
        RungMoney x = Check.townOf("man a;ladder a srr;");
        refused("paint above its top", x, y -> y.paint(0, 3), 2);
        Check.row("paint its top", new int[] {x.paint(0, 2), x.rung(0, 2)}, 0, 2);
    }

    /** "3 it is not rotten" */
    private static void paintNotRotten() {
        RungMoney x = Check.townOf("man a;ladder a srp;");
        refused("paint a sound one", x, y -> y.paint(0, 0), 3);
        refused("paint a painted one", x, y -> y.paint(0, 2), 3);
        Check.due("paint a rotten one", x.paint(0, 1), 0);
        refused("paint it again", x, y -> y.paint(0, 1), 3);
        Check.due("undo() of the one", x.undo(), 0);
    }

    private static void paintTopOfTallest() {
        RungMoney x = tallest();
        x.winter(1);
        Check.row("paint the 32nd RUNG", new int[] {x.paint(0, 31), x.rung(0, 31), x.ladder(0, 2), x.paint(0, 32)},
                0, 2, 13, -1);
    }

    // ---- promises 17 and 18 ----

    private static void taxes() {
        taxesOfNone();
        taxesOfTheLastRung();
    }

    /** "TAXES: 1 there is no LADDER" */
    private static void taxesOfNone() {
        refused("taxes in an empty town", new RungMoney(), RungMoney::taxes, 1);
        refused("taxes without LADDERS", Check.townOf("man a;"), RungMoney::taxes, 1);
        RungMoney x = Check.townOf("man a;ladder a ss;ladder a s;");
        x.burn(0);
        Check.row("one is there", new int[] {x.taxes(), x.now(2)}, 0, 1);
        refused("taxes when all are gone", x, RungMoney::taxes, 1);
        Check.due("undo() of the first taxes", x.undo(), 1);
    }

    /** "of each the top RUNG goes to the mint (one that has none left then is gone)" */
    private static void taxesOfTheLastRung() {
        RungMoney x = Check.townOf("man a;ladder a sr;ladder a p;ladder a rsp;");
        Check.due("taxes", x.taxes(), 0);
        Check.row("behind them", new int[] {x.now(2), x.now(1), x.ladder(1, 0), x.ladder(1, 1), x.count(1)}, 3, 5, -1, 0, 3);
        Check.rungs(x, 0, "s");
        Check.rungs(x, 2, "rs");
        Check.row("taxes", new int[] {x.taxes(), x.now(2), x.now(1), x.taxes(), x.now(2), x.now(1)}, 0, 5, 4, 0, 6, 0);
        RungMoney y = tallest();
        y.taxes();
        Check.rungs(y, 0, "sp".repeat(12) + "rrrrrrr");
        Check.row("what it looks, is worth", new int[] {y.ladder(0, 2), y.ladder(0, 3)}, 24, 12);
        RungMoney full = Check.townOf("man a;" + "ladder a sp;".repeat(16));
        Check.row("of sixteen", new int[] {full.taxes(), full.now(2), full.now(4), full.taxes(), full.now(2), full.now(1)},
                0, 16, 16, 0, 32, 0);
    }

    private static int drawOf12(int x) {
        return (x >>> 8) % 12;
    }

    private static void winter() {
        winterOf99();
        winterRot0And12();
        winterDraws();
        winterOfNoRungs();
        winterOfSixteen();
    }

    /** "1: there were 99" */
    private static void winterOf99() {
        RungMoney x = Check.townOf("man a;ladder a ss;rot 12;");
        x.drawn(30, 0);
        x.undo();
        Check.due("an undone WINTER is none", x.now(0), 0);
        RungMoney y = Check.townOf("man a;ladder a ss;rot 0;");
        y.drawn(30, 0);
        y.drawn(30, 0);
        y.drawn(30, 0);
        y.drawn(8, 0);
        Check.row("the 99th", new int[] {y.now(0), y.winter(5), y.now(0)}, 98, 0, 99);
        refused("the hundredth", y, z -> z.winter(5), 1);
        Check.row("undo() of the 99th", new int[] {y.undo(), y.now(0), y.winter(5), y.now(0)}, 4, 98, 0, 99);
        Check.town(y, "");
        Check.row("in a new TOWN", new int[] {y.now(0), y.winter(5), y.now(0)}, 0, 0, 1);
    }

    /** "rots, if a draw of 12 is below 'rot'": by 0 never, by 12 always */
    private static void winterRot0And12() {
        for (int seed : new int[] {0, 1, -1, 99, Integer.MIN_VALUE, Integer.MAX_VALUE}) {
            RungMoney x = Check.townOf("man a;ladder a ssspssssrsss;rot 0;");
            x.winter(seed);
            Check.rungs(x, 0, "ssspssssrsss");
            RungMoney y = Check.townOf("man a;ladder a ssspssssrsss;rot 12;");
            y.winter(seed);
            Check.rungs(y, 0, "rrrprrrrrrrr");
        }
    }

    /** "an int, wrapping", "(x >>> 8) % n": a draw is just below 'rot', or just 'rot' */
    private static void winterDraws() {
        for (int seed : new int[] {0, 1, 2, 77, -1, -12345, 0x40000000, Integer.MIN_VALUE, Integer.MAX_VALUE}) {
            int draw = drawOf12(seed * 1103515245 + 12345);
            RungMoney x = Check.townOf("man a;ladder a s;rot " + draw + ";");
            x.winter(seed);
            Check.rungs(x, 0, "s");
            RungMoney y = Check.townOf("man a;ladder a s;rot " + (draw + 1) + ";");
            y.winter(seed);
            Check.rungs(y, 0, "r");
        }
    }

    /** "each sound RUNG": without any it is a WINTER all the same */
    private static void winterOfNoRungs() {
        RungMoney x = new RungMoney();
        Check.row("in an empty town", new int[] {x.winter(1), x.now(0), x.undo(), x.now(0)}, 0, 1, 0, 0);
        RungMoney y = Check.townOf("man a;ladder a rp;rot 12;");
        y.winter(1);
        Check.rungs(y, 0, "rp");
        Check.due("winters", y.now(0), 1);
    }

    /** Rungs of all LADDERS, as they stand one behind the other, behind some WINTERS. */
    private static String behind(String rungs, int winters, int rot, int seed) {
        char[] c = rungs.toCharArray();
        int x = seed;
        for (int i = 0; i < winters * c.length; i++) {
            if (c[i % c.length] == 's') {
                x = x * 1103515245 + 12345;
                c[i % c.length] = drawOf12(x) < rot ? 'r' : 's';
            }
        }
        return new String(c);
    }

    /** "LADDER by LADDER, from the foot": as many as there can be, and none that is gone or of the TOWN ahead */
    private static void winterOfSixteen() {
        RungMoney x = Check.townOf("man a;" + "ladder a sspssrssssss;".repeat(16) + "rot 2;");
        x.drawn(2, 17);
        String want = behind("sspssrssssss".repeat(16), 2, 2, 17);
        for (int l = 0; l < 16; l++) {
            Check.rungs(x, l, want.substring(12 * l, 12 * l + 12));
        }
        RungMoney y = Check.townOf("man a;" + "ladder a ssssssssssss;".repeat(16) + "rot 2;");
        Check.town(y, "man a;ladder a ssssssss;ladder a ssssss;ladder a ssssssss;rot 2;");
        y.burn(1);
        y.drawn(3, 18);
        want = behind("s".repeat(16), 3, 2, 18);
        Check.rungs(y, 0, want.substring(0, 8));
        Check.rungs(y, 1, "");
        Check.rungs(y, 2, want.substring(8));
    }

    // ---- promise 19 ----

    private static void strike() {
        strikeNothingChanges();
        strikeOnlyChanges();
        strikeAllAway();
        strikeAbove250();
        strikeByNumbers();
    }

    /** "-2: nothing changes" */
    private static void strikeNothingChanges() {
        refused("strike in an empty town", new RungMoney(), RungMoney::strike, -2);
        RungMoney x = Check.townOf("man a;man b;man c;debt a b 1;debt a c 250;");
        refused("strike", x, RungMoney::strike, -2);
        nothingToUndo("strike", x);
    }

    /** "0, too, if they only change" */
    private static void strikeOnlyChanges() {
        RungMoney x = Check.townOf("man a;man b;man c;man d;debt a d 1;debt b c 1;");
        Check.row("strike", new int[] {x.strike(), x.debt(0, 2), x.debt(1, 3), x.debt(0, 3), x.debt(1, 2), x.now(3)},
                0, 1, 1, 0, 0, 2);
        refused("strike again", x, RungMoney::strike, -2);
        Check.row("undo", new int[] {x.undo(), x.debt(0, 3), x.debt(1, 2), x.debt(0, 2)}, 0, 1, 1, 0);
    }

    /** "by how much they are less in all": by all */
    private static void strikeAllAway() {
        RungMoney x = Check.townOf("man a;man b;man c;debt a b 250;debt b c 250;debt c a 250;");
        Check.row("strike", new int[] {x.struck(), x.strike(), x.now(3), x.struck(), x.strike()}, 0, 750, 0, 0, -2);
        Check.row("undo", new int[] {x.undo(), x.now(3)}, 0, 750);
    }

    /** "all debts anew, so that each has as much more or less": one debt may be above 250 then */
    private static void strikeAbove250() {
        RungMoney x = Check.townOf("man a;man b;man c;debt a b 250;debt b c 250;debt a c 250;");
        Check.row("strike", new int[] {x.strike(), x.debt(0, 1), x.debt(1, 2), x.debt(0, 2), x.stands(0), x.stands(1),
            x.stands(2)}, 250, 0, 0, 500, -500, 0, 500);
    }

    /** "MEN by numbers who owe more than they are owed pay MEN by numbers who are owed more": the first and the last */
    private static void strikeByNumbers() {
        RungMoney x = Check.townOf("man a;man b;man c;man d;man e;man f;debt f b 3;debt e a 4;debt f a 1;debt b e 1;");
        // a 5, b 2 are owed more; e 3, f 4 owe more
        Check.row("strike", new int[] {x.struck(), x.strike(), x.debt(4, 0), x.debt(4, 1), x.debt(5, 0), x.debt(5, 1), x.now(3)},
                7, 2, 3, 0, 2, 2, 7);
        RungMoney y = Check.townOf("man a;man b;man c;man d;man e;man f;debt a f 4;debt a e 1;debt c f 5;debt b c 3;");
        // a 5, b 3, c 2 owe more; e 1, f 9 are owed more
        Check.row("strike", new int[] {y.strike(), y.debt(0, 4), y.debt(0, 5), y.debt(1, 5), y.debt(2, 5), y.debt(1, 2)},
                3, 1, 4, 3, 2, 0);
    }

    // ---- promise 36 ----

    private static void drawn() {
        drawn1To30();
        drawn99AtMost();
        drawnGoesOn();
    }

    /** "n (1 to 30) .. NONE: not as told" */
    private static void drawn1To30() {
        RungMoney x = Check.townOf("man a;ladder a ss;rot 12;");
        for (int n : new int[] {0, 31, -1, 99, Integer.MIN_VALUE, Integer.MAX_VALUE}) {
            refused("drawn(" + n + ", 1)", x, y -> y.drawn(n, 1), -1);
        }
        nothingToUndo("drawn", x);
        Check.row("1 and 30", new int[] {x.drawn(1, 1), x.now(0), x.drawn(30, 1), x.now(0), x.undo(), x.now(0)},
                1, 1, 30, 31, 1, 1);
    }

    /** "how many went by (99 at most)" */
    private static void drawn99AtMost() {
        RungMoney x = Check.townOf("man a;ladder a ss;rot 0;");
        Check.row("drawn", new int[] {x.drawn(30, 1), x.drawn(30, 1), x.drawn(30, 1), x.drawn(9, 1), x.now(0)},
                30, 30, 30, 9, 99);
        refused("drawn when there were 99", x, y -> y.drawn(1, 1), 0);
        refused("drawn when there were 99", x, y -> y.drawn(30, 1), 0);
        refused("drawn, not as told, when there were 99", x, y -> y.drawn(31, 1), -1);
        Check.row("undo() of nine, then ten more", new int[] {x.undo(), x.now(0), x.drawn(10, 1), x.now(0)}, 3, 90, 9, 99);
    }

    /** "WINTERS one behind the other go on with it" */
    private static void drawnGoesOn() {
        for (int seed : new int[] {3, -3, Integer.MAX_VALUE}) {
            RungMoney x = Check.townOf("man a;man b;ladder a ssssssssssss;ladder b ssssssssssss;rot 1;");
            x.drawn(30, seed);
            String want = behind("s".repeat(24), 30, 1, seed);
            Check.rungs(x, 0, want.substring(0, 12));
            Check.rungs(x, 1, want.substring(12));
        }
    }

    // ---- promise 20 ----

    private static void undo() {
        undoNone();
        undoEightAtMost();
        undoRoundAndRound();
        undoWhatWasDone();
        undoOneByOne();
        undoBehindRefused();
        undoLedgerAsOne();
        undoLeavesTheRest();
    }

    /** "NONE: none is" */
    private static void undoNone() {
        refused("undo ahead of any act", new RungMoney(), RungMoney::undo, -1);
        RungMoney x = payers();
        refused("undo ahead of any act", x, RungMoney::undo, -1);
        x.burn(0);
        Check.due("undo of one", x.undo(), 0);
        refused("undo of none", x, RungMoney::undo, -1);
    }

    /** "how many more can be (8 at most are kept)" */
    private static void undoEightAtMost() {
        for (int acts = 7; acts <= 10; acts++) {
            RungMoney x = Check.townOf("man a;ladder a ssssssssssss;");
            for (int i = 0; i < acts; i++) {
                x.taxes();
            }
            int can = Math.min(acts, 8);
            for (int i = can - 1; i >= 0; i--) {
                Check.due("undo of " + acts, x.undo(), i);
            }
            refused("undo of one more", x, RungMoney::undo, -1);
            Check.due("how long it is", x.ladder(0, 1), 12 - acts + can);
        }
    }

    /** Places are used again and again: acts and undo() by turns. */
    private static void undoRoundAndRound() {
        RungMoney x = Check.townOf("man a;ladder a s;rot 0;");
        int winters = 0;
        int can = 0;
        for (int i = 0; i < 60; i++) {
            if (i % 3 == 2 && can > 0) {
                winters--;
                can--;
                Check.due("undo", x.undo(), can);
            } else {
                winters++;
                can = Math.min(can + 1, 8);
                Check.due("winter", x.winter(i), 0);
            }
            Check.due("winters", x.now(0), winters);
        }
        for (; can > 0; can--) {
            winters--;
            Check.row("undo", new int[] {x.undo(), x.now(0)}, can - 1, winters);
        }
        Check.due("no more", x.undo(), -1);
    }

    /** "pay() .. that was done, climb() that was not below 0, strike() that was not -2, drawn() above 0" */
    private static void undoWhatWasDone() {
        RungMoney x = Check.townOf("man a;man b;ladder a sp;ladder a r;ladder b s;debt a b 2;rot 0;");
        String before = Check.allSo(x);
        Act[] done = {y -> y.pay(0, 0, 1), y -> y.saw(0, 1), y -> y.splice(0, 1), y -> y.climb(1, 1), y -> y.burn(2),
            y -> y.paint(1, 0), RungMoney::taxes, y -> y.winter(1), y -> y.drawn(1, 1)};
        for (int i = 0; i < done.length; i++) {
            int answer = done[i].answer(x);
            Check.due("act " + i + " is done", answer, i == done.length - 1 ? 1 : 0);
            Check.due("undo of act " + i, x.undo(), 0);
            Check.same("act " + i + " is undone", Check.allSo(x), before);
        }
        Act[] not = {y -> y.pay(0, 0, 0), y -> y.pay(0, 2, 1), y -> y.saw(0, 0), y -> y.splice(0, 2), y -> y.climb(2, 0),
            y -> y.burn(3), y -> y.paint(0, 0), RungMoney::strike, y -> y.drawn(0, 1)};
        x.winter(1);
        for (int i = 0; i < not.length; i++) {
            not[i].answer(x);
        }
        Check.row("the latest that was done is undone", new int[] {x.undo(), x.now(0)}, 0, 0);
    }

    /** Each is undone to what was ahead of it, the latest first. */
    private static void undoOneByOne() {
        Act[] acts = {y -> y.saw(0, 3), y -> y.burn(2), y -> y.paint(1, 0), y -> y.climb(0, 3) - 1, y -> y.splice(0, 1),
            y -> y.winter(3), y -> y.pay(0, 3, 1), RungMoney::taxes};
        String town = "man a;man b;ladder a ssps;ladder a r;ladder b s;debt a b 9;rot 2;";
        RungMoney x = Check.townOf(town);
        RungMoney seen = Check.townOf(town);
        String[] before = new String[acts.length];
        for (int i = 0; i < acts.length; i++) {
            before[i] = Check.allSo(seen);
            Check.row("act " + i, new int[] {acts[i].answer(x), acts[i].answer(seen)}, 0, 0);
        }
        for (int i = acts.length - 1; i >= 0; i--) {
            Check.due("undo of act " + i, x.undo(), i);
            Check.same("as ahead of act " + i, Check.allSo(x), before[i]);
        }
    }

    /** "8 at most are kept": what is refused when there are 8 takes none of their places */
    private static void undoBehindRefused() {
        RungMoney x = Check.townOf("man a;ladder a ssssssssssss;");
        for (int i = 0; i < 9; i++) {
            x.taxes();
        }
        Check.row("refused", new int[] {x.burn(1), x.saw(0, 0), x.paint(0, 0), x.climb(1, 0), x.splice(0, 0), x.strike(),
            x.drawn(0, 1), Check.ledger(x, 1, "?")}, -1, 2, 3, -1, 1, -2, -1, -2);
        for (int i = 7; i >= 0; i--) {
            Check.row("undo", new int[] {x.undo(), x.ladder(0, 1)}, i, 11 - i);
        }
    }

    /** "a LEDGER that was lived is undone" */
    private static void undoLedgerAsOne() {
        RungMoney x = payers();
        x.winter(1);
        String before = Check.allSo(x);
        Check.due("forty LINES", Check.ledger(x, 1, "winter 1;".repeat(40)), -1);
        Check.due("winters", x.now(0), 41);
        Check.due("undo of them all", x.undo(), 1);
        Check.same("as ahead of it", Check.allSo(x), before);
        Check.due("one that goes WRONG", Check.ledger(x, 1, "taxes;burns 2;winter 3;"), 1);
        Check.due("undo of what was lived", x.undo(), 1);
        Check.same("as ahead of it", Check.allSo(x), before);
        Check.ledger(x, 0, "taxes;");
        Check.ledger(x, 1, "taxes;?");
        x.ledger(2);
        Check.row("one that was judged, has a FAULT, is not read", new int[] {x.undo(), x.now(0)}, 0, 0);
    }

    /** An act is undone, not what was asked, told or kept since. */
    private static void undoLeavesTheRest() {
        RungMoney x = payers();
        x.burn(3);
        x.price(0, 1);
        x.fire(0, 1);
        Check.ledger(x, 0, "burns 3;");
        Check.sentence(x, "gone");
        x.feed(1, 2, 3, 4, 5);
        x.image(0);
        Check.due("undo", x.undo(), 0);
        Check.row("what was told", new int[] {x.given(), x.cut(), x.wood(), x.told(0), x.count(3), x.said(-1), x.ladder(3, 0)},
                1, 1, 2, 41, 20, 0, 0);
        Check.row("the image", new int[] {x.restore(0) ? 1 : 0, x.ladder(3, 0), x.said(-1), x.undo()}, 1, -1, 1, -1);
    }

    // ---- promises 42 and 43 ----

    private static void images() {
        imageNoSuchOne();
        restoreNoSuchOne();
        restoreNothingKept();
        restoreNothingUndone();
        restoreLeaves();
        imageOfAnEmptyTown();
    }

    private static int bit(boolean b) {
        return b ? 1 : 0;
    }

    /** "place k (0, 1): true; false: no such one" */
    private static void imageNoSuchOne() {
        RungMoney x = payers();
        for (int k : new int[] {-1, 2, Integer.MIN_VALUE, Integer.MAX_VALUE}) {
            refused("image(" + k + ")", x, y -> bit(y.image(k)), 0);
        }
        Check.row("nothing is kept", new int[] {bit(x.restore(0)), bit(x.restore(1))}, 0, 0);
        Check.row("0 and 1", new int[] {bit(x.image(0)), bit(x.image(1)), bit(x.restore(0)), bit(x.restore(1))}, 1, 1, 1, 1);
    }

    /** "false: no such one" */
    private static void restoreNoSuchOne() {
        RungMoney x = payers();
        x.image(0);
        x.image(1);
        x.burn(0);
        for (int k : new int[] {-1, 2, Integer.MIN_VALUE, Integer.MAX_VALUE}) {
            refused("restore(" + k + ")", x, y -> bit(y.restore(k)), 0);
        }
        Check.due("the burning can be undone", x.undo(), 0);
    }

    /** "or nothing is kept there" */
    private static void restoreNothingKept() {
        RungMoney x = payers();
        x.burn(0);
        x.image(1);
        refused("restore(0)", x, y -> bit(y.restore(0)), 0);
        Check.due("the burning can be undone", x.undo(), 0);
        Check.row("restore(1)", new int[] {bit(x.restore(1)), x.ladder(0, 0)}, 1, -1);
    }

    /** "nothing can be undone" */
    private static void restoreNothingUndone() {
        RungMoney x = payers();
        x.burn(0);
        x.image(0);
        x.burn(1);
        x.restore(0);
        refused("undo behind restore", x, RungMoney::undo, -1);
        x.burn(3);
        Check.row("what comes then can be", new int[] {x.undo(), x.now(1), x.undo()}, 0, 14, -1);
    }

    /** "the tape, and what other calls told last, stays" */
    private static void restoreLeaves() {
        RungMoney x = payers();
        Check.sentence(x, "of b");
        x.image(0);
        String kept = Check.allSo(x);
        Check.town(x, "man z;man y;ladder z sp;debt z y 1;rot 3;");
        x.price(0, 1);
        x.fire(0, 2);
        Check.ledger(x, 0, "burns 0;burns 0;");
        Check.sentence(x, "of b");
        x.feed(1, 2, 3, 4, 5);
        Check.due("restore", x.restore(0), true);
        Check.same("the TOWN is as kept", Check.allSo(x), kept);
        Check.row("what stays", new int[] {x.count(3), x.fault(), x.given(), x.cut(), x.wood(), x.told(0), x.told(1)},
                20, 3, 1, 1, 1, 41, 1);
        Check.row("the SENTENCE is as kept", new int[] {x.said(-1), x.said(0)}, 1, 2);
    }

    /** An image of nothing is one, too; each place keeps its own, the latest. */
    private static void imageOfAnEmptyTown() {
        RungMoney x = new RungMoney();
        x.image(0);
        Check.town(x, "man a;ladder a s;");
        Check.sentence(x, "gone");
        x.image(1);
        x.restore(0);
        Check.row("an empty TOWN", new int[] {x.count(0), x.count(1), x.said(-1)}, 0, 0, -1);
        x.restore(1);
        Check.row("the other", new int[] {x.count(0), x.count(1), x.said(-1)}, 1, 1, 0);
        x.burn(0);
        x.image(1);
        x.restore(0);
        x.restore(1);
        Check.row("the latest", new int[] {x.ladder(0, 0), x.said(-1)}, -1, 1);
    }
}
