/**
 * Boundary cases of the tape, of what is so and of questions: promises 1 to 10, 21 to 35, 37 to 41 and 44. Each method has
 * one sentence of the document, whose words stand above it.
 */
public final class EdgesOfAnswersTest {
    private static final int[] FAR = {-1, -2, 16, 32, Integer.MIN_VALUE, Integer.MAX_VALUE, 1 << 16, 1 << 31 | 1};
    private static final String TOWN = "man a;man b;ladder a ssrp;ladder b pp;ladder a r;debt a b 3;rot 5;";

    public static void main(String[] args) {
        newObject();
        tape();
        town();
        fault();
        whatIsSo();
        price();
        height();
        test();
        suspect();
        fire();
        broke();
        forgers();
        debts();
        cheapest();
        odds();
        ledger();
        told();
        sentence();
        said();
        Check.finish();
    }

    private interface Question {
        int answer(RungMoney x);
    }

    private static void same(String what, RungMoney x, Question question, int want) {
        String before = Check.state(x);
        Check.due(what, question.answer(x), want);
        Check.same("behind " + what, Check.state(x), before);
    }

    private static void throwing(String what, RungMoney x, Question question) {
        String before = Check.state(x);
        Check.throwsNoSuch(what, () -> question.answer(x));
        Check.same("behind " + what, Check.state(x), before);
    }

    // ---- promises 1 to 3, 44 ----

    /** "An empty TOWN; an empty tape." */
    private static void newObject() {
        RungMoney x = new RungMoney();
        Check.same("a new object", Check.state(x),
                "0 0 0 0 0 0 0 0 rot 1/ fault 0 tape 0 price -1 -1 wood -1 told -1 -1 -1 -1 said -1:");
        Check.row("count", new int[] {x.count(0), x.count(1), x.count(2), x.count(3)}, 0, 0, 1, 0);
        RungMoney y = Check.townOf("man a;");
        Check.due("objects are their own", x.count(0) + y.count(0), 1);
    }

    private static void tape() {
        feedAtMost940();
        feedHighestFirst();
        endNotSoMany();
        countOfAnother();
    }

    /** "NONE, and none come, if it would have more than 940" */
    private static void feedAtMost940() {
        RungMoney x = Check.townOf("man a;ladder a s;");
        for (int i = 1; i <= 46; i++) {
            Check.due("feed", x.feed(0, 0, 0, 0, 0), 20 * i);
        }
        Check.due("feed to 940", x.feed(0, 0, 0, 0, 0), 940);
        same("feed to 960", x, y -> y.feed(1, 1, 1, 1, 1), -1);
        x.end(921);
        same("feed to 941", x, y -> y.feed(1, 1, 1, 1, 1), -1);
        x.end(920);
        Check.due("feed to 940", x.feed(1, 1, 1, 1, 1), 940);
        x.end(1);
        Check.row("none came", new int[] {x.forgers(), x.count(3)}, 1, 0);
    }

    /** "Twenty bytes come behind the tape, of each number the highest first" */
    private static void feedHighestFirst() {
        RungMoney x = Check.townOf("man a;man b;ladder a s;ladder b s;");
        int[] numbers = new int[5];
        for (int i = 0; i < 20; i++) {
            numbers[i / 4] = 1 << 24 - 8 * (i % 4);
            x.feed(numbers[0], numbers[1], numbers[2], numbers[3], numbers[4]);
            numbers[i / 4] = 0;
            x.end(i + 1);
            Check.due("byte " + i + " is 1, those ahead are 0", x.forgers(), i == 0 ? 2 : i < 16 ? 0 : -1);
        }
        x.feed(0xff000000, 0, 0, 0, 0);
        x.end(1);
        Check.due("a byte is 255 at most, not below 0", x.forgers(), -1);
        // behind what is there, not at a multiple of twenty
        x.feed(0, 0, 0, 0, 0);
        x.end(1);
        x.feed(0x01000000, 0, 0, 0, 0);
        x.end(2);
        Check.due("behind one byte", x.forgers(), 0);
    }

    /** "false, if it has not so many, or n is below 0" */
    private static void endNotSoMany() {
        RungMoney x = new RungMoney();
        Check.due("end(0) of none", x.end(0), true);
        same("end(1) of none", x, y -> y.end(1) ? 1 : 0, 0);
        x.feed(1, 2, 3, 4, 5);
        for (int n : new int[] {-1, 21, Integer.MIN_VALUE, Integer.MAX_VALUE}) {
            same("end(" + n + ") of 20", x, y -> y.end(n) ? 1 : 0, 0);
        }
        same("end(20) of 20", x, y -> y.end(20) ? 1 : 0, 1);
        Check.row("end", new int[] {x.end(19) ? 1 : 0, x.count(3), x.end(20) ? 1 : 0, x.end(0) ? 1 : 0, x.count(3)},
                1, 19, 0, 1, 0);
    }

    /** "NONE for another what." */
    private static void countOfAnother() {
        RungMoney x = Check.townOf(TOWN);
        Check.row("count", new int[] {x.count(0), x.count(1), x.count(2), x.count(3)}, 2, 3, 5, 0);
        for (int what : new int[] {-1, 4, Integer.MIN_VALUE, Integer.MAX_VALUE}) {
            same("count(" + what + ")", x, y -> y.count(what), -1);
        }
    }

    // ---- promises 4 and 5 ----

    private static void town() {
        townStays();
        townEmptiesTheTape();
        townIsNew();
    }

    /** "-1 less the place of a FAULT: it stays" */
    private static void townStays() {
        RungMoney x = Check.townOf(TOWN);
        Check.sentence(x, "of a");
        x.winter(1);
        String before = Check.allSo(x);
        for (String text : new String[] {"?", "man a;man a;", "man z;ladder z s;rot 13;", "man c;" + " ".repeat(895)}) {
            Check.due("a FAULT of '" + text + "'", Check.town(x, text) < 0, true);
            Check.same("behind '" + text + "'", Check.allSo(x), before);
        }
        Check.row("its names, its SENTENCE, what can be undone", new int[] {Check.ledger(x, 0, "a climbs 0;b climbs 0;"),
            x.said(-1), x.undo()}, -1, 2, 0);
    }

    /** "The tape (empty then, here and below)" */
    private static void townEmptiesTheTape() {
        RungMoney x = new RungMoney();
        Question[] readers = {RungMoney::town, RungMoney::sentence, y -> y.ledger(0), y -> y.ledger(1), RungMoney::forgers};
        for (Question reader : readers) {
            for (String text : new String[] {"gone", "taxes;", "rot 1;", "?", "\0", "x".repeat(940)}) {
                Check.put(x, text);
                reader.answer(x);
                Check.due("the tape behind '" + text + "'", x.count(3), 0);
            }
        }
    }

    /** "A new TOWN: no WINTER, nothing in the mint, no SENTENCE." */
    private static void townIsNew() {
        RungMoney x = Check.townOf(TOWN);
        x.winter(1);
        x.taxes();
        x.saw(0, 1);
        x.pay(0, 3, 1);
        Check.sentence(x, "gone");
        Check.due("an empty one", Check.town(x, ""), 0);
        Check.same("behind it", Check.allSo(x), "0 0 0 0 0 0 0 0 rot 1");
        Check.due("no SENTENCE", x.said(-1), -1);
        Check.due("no names", Check.sentence(x, "of a"), -4);
        // nor is anything left of what was only judged
        RungMoney y = Check.townOf("man a;man b;ladder a ssss;ladder a s;debt a b 5;rot 4;");
        Check.ledger(y, 0, "a pays 1 b;saws 0 1;taxes;winter 3;");
        Check.town(y, "man c;ladder c s;");
        Check.same("behind one that was judged", Check.allSo(y), "s 0/1 - pays 0 0 1 0 0 1 1 0 0 rot 1");
    }

    /** "a ledger() of -1000 leaves it); 0 without one and ahead of any" */
    private static void fault() {
        RungMoney x = new RungMoney();
        Check.due("ahead of any", x.fault(), 0);
        x.ledger(2);
        Check.due("behind a ledger() of -1000", x.fault(), 0);
        Check.town(x, "rot 13;");
        Check.due("a town() with one", x.fault(), 2);
        x.ledger(-1);
        Check.due("behind a ledger() of -1000", x.fault(), 2);
        x.forgers();
        Check.due("behind forgers()", x.fault(), 2);
        Check.town(x, "");
        Check.due("a town() without", x.fault(), 0);
        Check.ledger(x, 0, "z climbs 1;");
        Check.due("a ledger() with one", x.fault(), 3);
        Check.ledger(x, 0, "burns 1;");
        Check.due("a ledger() without, though WRONG", x.fault(), 0);
        Check.sentence(x, "not ".repeat(9));
        Check.due("a sentence() with one", x.fault(), 4);
        Check.sentence(x, "gone");
        Check.due("a sentence() without", x.fault(), 0);
    }

    // ---- promises 6 to 10 ----

    private static void whatIsSo() {
        ladderNoSuchOnes();
        ladderGone();
        rungNoSuchOne();
        manNoSuchOnes();
        manWithout();
        debtNoSuchOnes();
        nowAnother();
        nowCutsAndMint();
    }

    /** "NoSuchElementException: no such ones" */
    private static void ladderNoSuchOnes() {
        RungMoney x = Check.townOf(TOWN);
        String before = Check.state(x);
        for (int far : FAR) {
            Check.throwsNoSuch("ladder(" + far + ", 0)", () -> x.ladder(far, 0));
            Check.throwsNoSuch("ladder(0, " + far + ")", () -> x.ladder(0, far));
            Check.throwsNoSuch("ladder(" + far + ", " + far + ")", () -> x.ladder(far, far));
        }
        Check.throwsNoSuch("ladder(3, 0)", () -> x.ladder(3, 0));
        Check.throwsNoSuch("ladder(0, 6)", () -> x.ladder(0, 6));
        Check.same("behind them all", Check.state(x), before);
        throwing("ladder in an empty town", new RungMoney(), y -> y.ladder(0, 0));
        Check.row("the last ones", new int[] {x.ladder(2, 0), x.ladder(2, 5)}, 0, 1);
    }

    /** "0 who has it (NONE: gone)" */
    private static void ladderGone() {
        RungMoney x = Check.townOf(TOWN);
        x.burn(0);
        Check.row("one that is gone", new int[] {x.ladder(0, 0), x.ladder(0, 1), x.ladder(0, 2), x.ladder(0, 3),
            x.ladder(0, 4), x.ladder(0, 5)}, -1, 0, 0, 0, 0, 1);
        throwing("ladder(0, 6) of one that is gone", x, y -> y.ladder(0, 6));
    }

    /** "NONE: no such one" */
    private static void rungNoSuchOne() {
        RungMoney x = Check.townOf(TOWN);
        String before = Check.state(x);
        for (int far : FAR) {
            Check.due("rung(" + far + ", 0)", x.rung(far, 0), -1);
            Check.due("rung(0, " + far + ")", x.rung(0, far), -1);
        }
        Check.same("behind them all", Check.state(x), before);
        Check.row("its RUNGS, and one more", new int[] {x.rung(0, 0), x.rung(0, 1), x.rung(0, 2), x.rung(0, 3), x.rung(0, 4)},
                0, 0, 1, 2, -1);
        Check.row("the last LADDER, and one more", new int[] {x.rung(2, 0), x.rung(2, 1), x.rung(3, 0)}, 1, -1, -1);
        x.burn(0);
        Check.due("of one that is gone", x.rung(0, 0), -1);
    }

    /** "NONE: no such ones" */
    private static void manNoSuchOnes() {
        RungMoney x = Check.townOf(TOWN);
        String before = Check.state(x);
        for (int far : FAR) {
            Check.due("man(" + far + ", 0)", x.man(far, 0), -1);
            Check.due("man(0, " + far + ")", x.man(0, far), -1);
        }
        Check.due("man(2, 0)", x.man(2, 0), -1);
        Check.due("man(0, 7)", x.man(0, 7), -1);
        Check.due("man(1, 6)", x.man(1, 6), 0);
        Check.same("behind them all", Check.state(x), before);
        same("man in an empty town", new RungMoney(), y -> y.man(0, 0), -1);
    }

    /** "0 his LADDERS .. 5 the highest that he can climb": without any */
    private static void manWithout() {
        RungMoney x = Check.townOf("man a;");
        Check.row("man", new int[] {x.man(0, 0), x.man(0, 1), x.man(0, 2), x.man(0, 3), x.man(0, 4), x.man(0, 5), x.man(0, 6)},
                0, 0, 0, 0, 0, 0, 0);
        RungMoney y = Check.townOf("man a;" + "ladder a ssssssssssss;".repeat(16));
        Check.row("all there can be", new int[] {y.man(0, 0), y.man(0, 1), y.man(0, 2), y.man(0, 5)}, 65535, 192, 192, 12);
        y.burn(15);
        Check.row("one less", new int[] {y.man(0, 0), y.man(0, 1)}, 32767, 180);
    }

    /** "NONE: no such ones, alike" */
    private static void debtNoSuchOnes() {
        RungMoney x = Check.townOf(TOWN);
        String before = Check.state(x);
        for (int far : FAR) {
            Check.due("debt(" + far + ", 0)", x.debt(far, 0), -1);
            Check.due("debt(0, " + far + ")", x.debt(0, far), -1);
            Check.due("debt(" + far + ", " + far + ")", x.debt(far, far), -1);
        }
        Check.same("behind them all", Check.state(x), before);
        Check.row("debt", new int[] {x.debt(0, 1), x.debt(1, 0), x.debt(0, 0), x.debt(1, 1), x.debt(0, 2), x.debt(2, 0)},
                3, 0, -1, -1, -1, -1);
    }

    /** "NONE for another what." */
    private static void nowAnother() {
        RungMoney x = Check.townOf(TOWN);
        for (int what : new int[] {-1, 8, 99, Integer.MIN_VALUE, Integer.MAX_VALUE}) {
            same("now(" + what + ")", x, y -> y.now(what), -1);
        }
        Check.row("now", new int[] {x.now(0), x.now(1), x.now(2), x.now(3), x.now(4), x.now(5), x.now(6), x.now(7)},
                0, 7, 0, 3, 5, 2, 3, 0);
    }

    /** "2 RUNGS in the mint", "7 cuts so far": burning brings none there, and an undone cut is none. */
    private static void nowCutsAndMint() {
        RungMoney x = Check.townOf(TOWN);
        x.burn(1);
        Check.due("the mint behind burning", x.now(2), 0);
        x.saw(0, 1);
        x.saw(0, 1);
        Check.due("cuts", x.now(7), 1);
        x.undo();
        Check.due("an undone cut", x.now(7), 0);
    }

    // ---- promises 21 to 23 ----

    private static void price() {
        priceNotAsTold();
        priceHasNotSoMuch();
        priceFewestCuts();
        priceFewestLadders();
        priceLeastBits();
        priceCutPlace();
        priceLooksNothing();
        givenAheadOfAny();
        givenStays();
    }

    private static void price(RungMoney x, int m, int n, int... want) {
        Check.row("price(" + m + ", " + n + "), given(), cut()", new int[] {x.price(m, n), x.given(), x.cut()}, want);
    }

    /** "PRICE n (1 to 500) of a MAN .. NONE: .. no such ones" */
    private static void priceNotAsTold() {
        RungMoney x = Check.townOf("man a;man b;ladder a ss;");
        price(x, 0, 1, 101, 1, 1);
        String before = Check.state(x);
        for (int far : FAR) {
            Check.due("price(" + far + ", 1)", x.price(far, 1), -1);
        }
        Check.due("price(2, 1)", x.price(2, 1), -1);
        for (int n : new int[] {0, -1, 501, 513, Integer.MIN_VALUE, Integer.MAX_VALUE}) {
            Check.due("price(0, " + n + ")", x.price(0, n), -1);
        }
        Check.due("price(0, 500)", x.price(0, 500), -1);
        Check.same("behind them all", Check.state(x), before);
    }

    /** "NONE: he has not so much" */
    private static void priceHasNotSoMuch() {
        RungMoney x = Check.townOf("man a;man b;ladder a ss;ladder b sssss;ladder a rp;");
        price(x, 0, 3, 2, 5, -1);
        same("price(0, 4)", x, y -> y.price(0, 4), -1);
        RungMoney full = Check.townOf("man a;" + "ladder a ssssssssssss;".repeat(16));
        price(full, 0, 192, 16, 65535, -1);
        price(full, 0, 193, -1, 65535, -1);
        same("price of one that has none", Check.townOf("man a;"), y -> y.price(0, 1), -1);
    }

    /** "the fewest cuts (0, 1) so that what is given is just n": no cut, though by one fewer LADDERS would do */
    private static void priceFewestCuts() {
        RungMoney x = Check.townOf("man a;ladder a s;ladder a s;ladder a s;ladder a sssss;");
        price(x, 0, 3, 3, 7, -1);
        price(x, 0, 4, 101, 8, 304);
        price(x, 0, 5, 1, 8, -1);
        price(x, 0, 8, 4, 15, -1);
    }

    /** "of these the fewest LADDERS that are given (of the one that is cut, which counts ..." */
    private static void priceFewestLadders() {
        RungMoney x = Check.townOf("man a;ladder a ss;ladder a ss;ladder a ssss;");
        price(x, 0, 4, 1, 4, -1);
        price(x, 0, 3, 101, 4, 203);
        price(x, 0, 5, 102, 5, 1);
        price(x, 0, 7, 103, 7, 1);
        price(x, 0, 8, 3, 7, -1);
    }

    /** "of like ones the least as bits (with it)" */
    private static void priceLeastBits() {
        RungMoney x = Check.townOf("man a;ladder a sss;ladder a ss;ladder a ss;ladder a sss;ladder a s;");
        price(x, 0, 2, 1, 2, -1);
        price(x, 0, 5, 2, 3, -1);
        price(x, 0, 4, 2, 6, -1);
        price(x, 0, 7, 3, 7, -1);
        RungMoney y = Check.townOf("man a;ladder a s;ladder a ssss;ladder a sssss;");
        price(y, 0, 2, 101, 2, 102);
        price(y, 0, 7, 102, 6, 102);
    }

    /** "of these the first LADDER that may be the one that is cut, above the fewest RUNGS" */
    private static void priceCutPlace() {
        RungMoney x = Check.townOf("man a;ladder a rrpsrrs;ladder a ssss;");
        price(x, 0, 1, 101, 1, 3);
        price(x, 0, 2, 101, 1, 4);
        price(x, 0, 5, 102, 3, 3);
        price(x, 0, 6, 102, 3, 4);
        price(x, 0, 3, 1, 1, -1);
        RungMoney tall = Check.townOf("man a;ladder a ssssssssssss;ladder a ssssssssssss;ladder a ssssssss;");
        tall.splice(0, 1);
        tall.splice(0, 2);
        price(tall, 0, 31, 101, 1, 31);
        price(tall, 0, 32, 1, 1, -1);
        RungMoney last = Check.townOf("man a;man b;" + "ladder b s;".repeat(15) + "ladder a sss;");
        price(last, 0, 2, 101, 32768, 1502);
    }

    /** "by what they LOOK": one that looks nothing is never given, one that is gone neither */
    private static void priceLooksNothing() {
        RungMoney x = Check.townOf("man a;ladder a rr;ladder a s;ladder a rp;ladder a s;");
        x.burn(3);
        price(x, 0, 2, 2, 6, -1);
        same("price(0, 3)", x, y -> y.price(0, 3), -1);
    }

    /** "NONE ahead of any", "NONE: without a cut, or ahead of any" */
    private static void givenAheadOfAny() {
        RungMoney x = Check.townOf("man a;ladder a ss;");
        Check.row("ahead of any", new int[] {x.given(), x.cut()}, -1, -1);
        x.price(0, 3);
        Check.row("behind a price() of NONE", new int[] {x.given(), x.cut()}, -1, -1);
        price(x, 0, 1, 101, 1, 1);
        price(x, 0, 2, 1, 1, -1);
    }

    /** "by the latest price() that was not NONE" */
    private static void givenStays() {
        RungMoney x = Check.townOf("man a;ladder a s;ladder a sss;");
        price(x, 0, 2, 101, 2, 102);
        price(x, 0, 5, -1, 2, 102);
        price(x, 9, 1, -1, 2, 102);
        price(x, 0, 0, -1, 2, 102);
        x.burn(1);
        Check.row("behind acts", new int[] {x.given(), x.cut()}, 2, 102);
        x.undo();
        Check.row("and undo()", new int[] {x.given(), x.cut()}, 2, 102);
    }

    // ---- promises 24 to 27 ----

    private static void height() {
        heightNotAsTold();
        heightDontCome();
        bearNone();
    }

    /** "HEIGHT h (1 to 500) .. no such one" */
    private static void heightNotAsTold() {
        RungMoney x = Check.townOf("man a;ladder a ss;");
        for (int h : new int[] {0, -1, 501, Integer.MIN_VALUE, Integer.MAX_VALUE}) {
            same("height(" + h + ")", x, y -> y.height(h), -1);
        }
        Check.row("1 and 500", new int[] {x.height(1), x.height(500)}, 1, -1);
    }

    /** "the fewest LADDERS that come to h or more together", "NONE: they don't come to it" */
    private static void heightDontCome() {
        RungMoney x = Check.townOf("man a;man b;ladder a ss;ladder b sssss;ladder a sss;ladder b ssssssr;ladder a ssssp;");
        Check.row("height", new int[] {x.height(5), x.height(6), x.height(8), x.height(9), x.height(10), x.height(11)},
                1, 2, 2, 3, 3, -1);
        RungMoney full = Check.townOf("man a;" + "ladder a ssssssssssss;".repeat(16));
        Check.row("all there can be", new int[] {full.height(12), full.height(13), full.height(192), full.height(193)},
                1, 2, 16, -1);
        RungMoney low = Check.townOf("man a;ladder a s;ladder a r;ladder a s;");
        Check.row("one RUNG each", new int[] {low.height(1), low.height(2), low.height(3)}, 1, 2, -1);
        RungMoney tall = Check.townOf("man a;ladder a ssssssssssss;ladder a ssssssssssss;ladder a ssssssss;ladder a s;");
        tall.splice(0, 1);
        tall.splice(0, 2);
        Check.row("the tallest", new int[] {tall.height(32), tall.height(33), tall.height(34), tall.bear()}, 1, 2, -1, 9);
    }

    /** "LADDERS that BEAR, as bits." */
    private static void bearNone() {
        Check.row("none", new int[] {new RungMoney().bear(), Check.townOf("man a;ladder a sp;ladder a r;").bear()}, 0, 0);
        RungMoney x = Check.townOf("man a;" + "ladder a s;".repeat(16));
        Check.due("all", x.bear(), 65535);
        x.burn(0);
        x.burn(15);
        Check.due("gone ones don't", x.bear(), 32766);
    }

    private static void test() {
        testNotAsTold();
        testNotAsMany();
        testLeastTerms();
    }

    /** "NoSuchElementException: another what or n" */
    private static void testNotAsTold() {
        RungMoney x = Check.townOf("man a;ladder a ssspp;");
        String before = Check.state(x);
        for (int n : new int[] {0, 4, -1, Integer.MIN_VALUE, Integer.MAX_VALUE}) {
            Check.throwsNoSuch("test(" + n + ", 0)", () -> x.test(n, 0));
            Check.throwsNoSuch("test(" + n + ", 1)", () -> x.test(n, 1));
        }
        for (int what : new int[] {2, -1, Integer.MIN_VALUE, Integer.MAX_VALUE}) {
            Check.throwsNoSuch("test(1, " + what + ")", () -> x.test(1, what));
        }
        Check.same("behind them all", Check.state(x), before);
    }

    /** "there are not as many that LOOK sound" */
    private static void testNotAsMany() {
        for (int looks = 0; looks < 4; looks++) {
            RungMoney x = Check.townOf("man a;ladder a rr" + "p".repeat(looks) + ";");
            for (int n = 1; n <= 3; n++) {
                int drawn = n;
                if (n > looks) {
                    throwing("test(" + n + ", 0) of " + looks, x, y -> y.test(drawn, 0));
                } else {
                    Check.row("test(" + n + ", ..) of " + looks, new int[] {x.test(n, 0), x.test(n, 1)}, 1, 1);
                }
            }
        }
        throwing("test in an empty town", new RungMoney(), y -> y.test(1, 0));
    }

    /** "All fractions are told by two numbers: 0 above, 1 below, in least terms." */
    private static void testLeastTerms() {
        RungMoney none = Check.townOf("man a;ladder a sss;");
        RungMoney one = Check.townOf("man a;ladder a psss;");
        RungMoney all = Check.townOf("man a;ladder a ppp;");
        for (int n = 1; n <= 3; n++) {
            Check.row("none is painted", new int[] {none.test(n, 0), none.test(n, 1)}, 0, 1);
            Check.row("all are", new int[] {all.test(n, 0), all.test(n, 1)}, 1, 1);
        }
        Check.row("one of four is", new int[] {one.test(1, 0), one.test(1, 1), one.test(2, 0), one.test(2, 1), one.test(3, 0),
            one.test(3, 1)}, 1, 4, 1, 2, 3, 4);
        RungMoney full = Check.townOf("man a;ladder a ppssssssssss;" + "ladder a ssssssssssss;".repeat(15));
        // 190 * 189 * 188 of 192 * 191 * 190 draws find none of two
        Check.row("two of 192", new int[] {full.test(3, 0), full.test(3, 1)}, 95, 3056);
    }

    private static void suspect() {
        suspectNone();
        suspectOfLikeOnes();
    }

    /** "NONE: none has a painted one" */
    private static void suspectNone() {
        Check.row("none", new int[] {new RungMoney().suspect(), Check.townOf("man a;ladder a sr;").suspect()}, -1, -1);
        RungMoney x = Check.townOf("man a;ladder a sr;ladder a p;");
        Check.due("one has", x.suspect(), 1);
        x.burn(1);
        Check.due("it is gone", x.suspect(), -1);
    }

    /** "the greatest part is painted (of like ones the first)" */
    private static void suspectOfLikeOnes() {
        Check.due("1 of 2, 2 of 4", Check.townOf("man a;ladder a sp;ladder a sspp;").suspect(), 0);
        Check.due("2 of 4, 1 of 2", Check.townOf("man a;ladder a sspp;ladder a sp;").suspect(), 0);
        Check.due("1 of 12, 1 of 11", Check.townOf("man a;ladder a psssssssssss;ladder a pssssssssssr;").suspect(), 1);
        Check.due("all of 1, all of 12", Check.townOf("man a;ladder a rp;ladder a pppppppppppp;").suspect(), 0);
        Check.due("the last", Check.townOf("man a;" + "ladder a s;".repeat(15) + "ladder a ps;").suspect(), 15);
    }

    // ---- promises 28 and 29 ----

    private static void fire() {
        fireNotAsTold();
        fireNotAsMany();
        fireLooksLeast();
        woodStays();
    }

    private static void fire(RungMoney x, int m, int n, int looks, int wood) {
        Check.row("fire(" + m + ", " + n + "), wood()", new int[] {x.fire(m, n), x.wood()}, looks, wood);
    }

    /** "FIRE of a MAN for n (1 to 500) .. no such ones" */
    private static void fireNotAsTold() {
        RungMoney x = Check.townOf("man a;man b;ladder a sr;");
        String before = Check.state(x);
        for (int far : FAR) {
            Check.due("fire(" + far + ", 1)", x.fire(far, 1), -1);
        }
        Check.due("fire(2, 1)", x.fire(2, 1), -1);
        for (int n : new int[] {0, -1, 500, 501, 513, Integer.MIN_VALUE, Integer.MAX_VALUE}) {
            Check.due("fire(0, " + n + ")", x.fire(0, n), -1);
        }
        Check.same("behind them all", Check.state(x), before);
        fire(x, 0, 1, 1, 1);
    }

    /** "NONE: he has not as many RUNGS" */
    private static void fireNotAsMany() {
        RungMoney x = Check.townOf("man a;man b;ladder a sr;ladder b rrrr;ladder a r;");
        fire(x, 0, 3, 1, 5);
        same("fire(0, 4)", x, y -> y.fire(0, 4), -1);
        same("fire of one that has none", Check.townOf("man a;"), y -> y.fire(0, 1), -1);
        RungMoney full = Check.townOf("man a;" + "ladder a sprsprsprspr;".repeat(16));
        fire(full, 0, 192, 128, 65535);
        fire(full, 0, 193, -1, 65535);
        fire(full, 0, 180, 120, 32767);
        fire(full, 0, 181, 128, 65535);
    }

    /** "n RUNGS at least together, that LOOK the least together; of like ones the least as bits" */
    private static void fireLooksLeast() {
        RungMoney x = Check.townOf("man a;ladder a ss;ladder a rrs;ladder a rs;ladder a rr;ladder a rsr;");
        fire(x, 0, 1, 0, 8);
        fire(x, 0, 2, 0, 8);
        fire(x, 0, 3, 1, 2);
        fire(x, 0, 4, 1, 10);
        fire(x, 0, 6, 2, 14);
        fire(x, 0, 8, 2, 26);
        fire(x, 0, 12, 5, 31);
        RungMoney y = Check.townOf("man a;ladder a rrr;ladder a rr;ladder a r;");
        fire(y, 0, 3, 0, 1);
        fire(y, 0, 4, 0, 3);
        fire(y, 0, 6, 0, 7);
    }

    /** "by the latest fire() that was not NONE; NONE ahead of any" */
    private static void woodStays() {
        RungMoney x = Check.townOf("man a;ladder a s;ladder a rr;");
        Check.due("ahead of any", x.wood(), -1);
        x.fire(0, 9);
        Check.due("behind a fire() of NONE", x.wood(), -1);
        fire(x, 0, 2, 0, 2);
        fire(x, 0, 4, -1, 2);
        fire(x, 7, 1, -1, 2);
        x.burn(1);
        Check.due("behind acts", x.wood(), 2);
    }

    // ---- promises 30 to 34 ----

    private static void broke() {
        brokeJustEnough();
        brokeAllAtOnce();
        brokeNobody();
        bubblesOnly();
    }

    /** "who can't pay all that he owes": just as much is enough, one less is not */
    private static void brokeJustEnough() {
        Check.due("as much", Check.townOf("man a;man b;ladder a spr;debt a b 2;").broke(), 0);
        Check.due("one less", Check.townOf("man a;man b;ladder a spr;debt a b 3;").broke(), 1);
        Check.due("by what is owed", Check.townOf("man a;man b;ladder b ss;debt a b 3;debt b a 3;").broke(), 0);
        RungMoney x = Check.townOf("man a;man b;ladder a sss;debt a b 3;");
        x.burn(0);
        Check.due("his LADDER is gone", x.broke(), 1);
    }

    /** "all who can't are at once; then again, till nobody more is" */
    private static void brokeAllAtOnce() {
        RungMoney x = Check.townOf("man a;man b;man c;man d;man e;man f;debt f e 1;debt e d 1;debt d c 1;debt c b 1;debt b a 1;");
        Check.due("one by one, the last first; nobody owes a", x.broke(), 62);
        RungMoney y = Check.townOf("man a;man b;man c;man d;man e;man f;debt a b 1;debt b c 1;debt c d 1;debt d e 1;debt e f 1;"
                + "debt f a 1;debt a c 1;");
        Check.due("all six", y.broke(), 63);
    }

    /** "at first nobody is" */
    private static void brokeNobody() {
        Check.row("an empty town", new int[] {new RungMoney().broke(), new RungMoney().bubbles()}, 0, 0);
        Check.due("in a round", Check.townOf("man a;man b;debt a b 250;debt b a 250;").broke(), 0);
    }

    /** "by what LADDERS are WORTH, not LOOK, but not as told above" */
    private static void bubblesOnly() {
        RungMoney x = Check.townOf("man a;man b;man c;ladder a sp;ladder b r;debt a c 2;debt b c 1;");
        Check.row("broke, bubbles", new int[] {x.broke(), x.bubbles()}, 2, 1);
        x.climb(0, 0);
        Check.row("when it is found out", new int[] {x.broke(), x.bubbles()}, 3, 0);
    }

    private static void forgers() {
        forgersNotAsTold();
        forgersOfManyHands();
    }

    /** "NONE: not as told (1 to 16 numbers of LADDERS)" */
    private static void forgersNotAsTold() {
        RungMoney x = Check.townOf("man a;man b;ladder a s;ladder b s;");
        Check.due("none", x.forgers(), -1);
        Check.due("sixteen", Check.forgers(x, 0, 0, 0, 0, 0, 0, 0, 0, 0, 0, 0, 0, 0, 0, 0, 0), 1);
        Check.due("seventeen", Check.forgers(x, 0, 0, 0, 0, 0, 0, 0, 0, 0, 0, 0, 0, 0, 0, 0, 0, 0), -1);
        Check.row("no such LADDERS", new int[] {Check.forgers(x, 2), Check.forgers(x, 0, 2), Check.forgers(x, 255),
            Check.forgers(x, 128), Check.forgers(x, 16)}, -1, -1, -1, -1, -1);
        Check.due("not as told behind none in common", Check.forgers(x, 0, 1, 2), -1);
        Check.due("in an empty town", Check.forgers(new RungMoney(), 0), -1);
    }

    /** "MEN through whose HANDS all these went" */
    private static void forgersOfManyHands() {
        RungMoney x = Check.townOf("man a;man b;ladder a s;ladder b s;debt a b 2;");
        Check.row("none in common", new int[] {Check.forgers(x, 0, 1), Check.forgers(x, 0), Check.forgers(x, 1)}, 0, 1, 2);
        x.pay(0, 0, 1);
        Check.row("b has both", new int[] {Check.forgers(x, 0, 1), Check.forgers(x, 0), Check.forgers(x, 1)}, 2, 3, 2);
        RungMoney y = Check.townOf("man a;man b;" + "ladder a s;".repeat(15) + "ladder b s;");
        Check.row("the last", new int[] {Check.forgers(y, 15), Check.forgers(y, 14), Check.forgers(y, 0, 1, 2, 3, 4, 5, 6, 7,
            8, 9, 10, 11, 12, 13, 14, 15)}, 2, 1, 0);
    }

    private static void debts() {
        struckOfNone();
        standsNoSuchOne();
    }

    /** "What all debts would be in all, if STRUCK round." */
    private static void struckOfNone() {
        Check.row("none", new int[] {new RungMoney().struck(), Check.townOf("man a;").struck()}, 0, 0);
        RungMoney x = Check.townOf("man a;man b;man c;debt a b 250;debt b a 249;debt b c 1;");
        same("struck()", x, RungMoney::struck, 1);
        Check.row("as by strike()", new int[] {x.strike(), x.now(3), x.struck()}, 499, 1, 1);
    }

    /** "NoSuchElementException: no such one" */
    private static void standsNoSuchOne() {
        RungMoney x = Check.townOf(TOWN);
        String before = Check.state(x);
        for (int far : FAR) {
            Check.throwsNoSuch("stands(" + far + ")", () -> x.stands(far));
        }
        Check.throwsNoSuch("stands(2)", () -> x.stands(2));
        Check.same("behind them all", Check.state(x), before);
        throwing("stands in an empty town", new RungMoney(), y -> y.stands(0));
        Check.row("more, or less", new int[] {x.stands(0), x.stands(1)}, -3, 3);
    }

    // ---- promises 35 and 37 ----

    private static void cheapest() {
        cheapestNotAsTold();
        cheapestNone();
    }

    /** "h (1 to 32) long at least .. no such one" */
    private static void cheapestNotAsTold() {
        RungMoney x = Check.townOf("man a;ladder a ssssssssssss;ladder a ssssssssssss;ladder a ssssssss;ladder a ss;");
        x.splice(0, 1);
        x.splice(0, 2);
        String before = Check.state(x);
        for (int h : new int[] {0, -1, 33, Integer.MIN_VALUE, Integer.MAX_VALUE}) {
            Check.due("cheapest(" + h + ")", x.cheapest(h), -1);
        }
        Check.same("behind them all", Check.state(x), before);
        Check.row("cheapest", new int[] {x.cheapest(1), x.cheapest(2), x.cheapest(3), x.cheapest(32)}, 2, 2, 32, 32);
    }

    /** "NONE: none is" */
    private static void cheapestNone() {
        RungMoney x = Check.townOf("man a;ladder a sss;ladder a sp;ladder a r;");
        Check.row("cheapest", new int[] {x.cheapest(1), x.cheapest(3), x.cheapest(4)}, 3, 3, -1);
        x.burn(0);
        Check.due("it is gone", x.cheapest(1), -1);
        Check.due("in an empty town", new RungMoney().cheapest(1), -1);
    }

    private static void odds() {
        oddsNotAsTold();
        oddsAtLeast();
        oddsSeedsWrap();
        oddsChangeNothing();
        oddsNear99();
    }

    /** "n (1 to 30) .. w (0 to 500) .. NONE: no such ones" */
    private static void oddsNotAsTold() {
        RungMoney x = Check.townOf(TOWN);
        String before = Check.state(x);
        for (int far : FAR) {
            Check.due("odds(" + far + ", 0, 1, 1)", x.odds(far, 0, 1, 1), -1);
        }
        Check.due("odds(2, 0, 1, 1)", x.odds(2, 0, 1, 1), -1);
        for (int w : new int[] {-1, 501, Integer.MIN_VALUE, Integer.MAX_VALUE}) {
            Check.due("odds(0, " + w + ", 1, 1)", x.odds(0, w, 1, 1), -1);
        }
        for (int n : new int[] {0, 31, -1, Integer.MIN_VALUE, Integer.MAX_VALUE}) {
            Check.due("odds(0, 0, " + n + ", 1)", x.odds(0, 0, n, 1), -1);
        }
        Check.same("behind them all", Check.state(x), before);
        Check.row("the least and the most", new int[] {x.odds(0, 0, 1, 1), x.odds(0, 0, 30, 1), x.odds(1, 500, 30, 1)},
                1, 30, 0);
    }

    /** "LOOK w .. at least" */
    private static void oddsAtLeast() {
        RungMoney x = Check.townOf("man a;man b;ladder a sspr;ladder b sp;rot 12;");
        Check.row("all sound ones rot", new int[] {x.odds(0, 1, 9, 1), x.odds(0, 2, 9, 1), x.odds(1, 1, 9, 1)}, 9, 0, 9);
        RungMoney y = Check.townOf("man a;ladder a sspr;rot 0;");
        Check.row("none rots", new int[] {y.odds(0, 3, 30, 1), y.odds(0, 4, 30, 1)}, 30, 0);
        RungMoney full = Check.townOf("man a;" + "ladder a ssssssssssss;".repeat(16) + "rot 0;");
        Check.row("of sixteen", new int[] {full.odds(0, 192, 30, 1), full.odds(0, 193, 30, 1)}, 30, 0);
    }

    private static String looksBehindFive(String rungs, int rot, int seed) {
        char[] c = rungs.toCharArray();
        int x = seed;
        for (int i = 0; i < 5 * c.length; i++) {
            if (c[i % c.length] == 's') {
                x = x * 1103515245 + 12345;
                c[i % c.length] = (x >>> 8) % 12 < rot ? 'r' : 's';
            }
        }
        return new String(c).replace("r", "");
    }

    /** "seeds x, x and 1, ..": behind the greatest int comes the least */
    private static void oddsSeedsWrap() {
        RungMoney x = Check.townOf("man a;ladder a sssspsssssss;rot 1;");
        for (int seed : new int[] {0, -5, Integer.MAX_VALUE, Integer.MAX_VALUE - 3, Integer.MIN_VALUE}) {
            for (int w = 4; w < 12; w++) {
                int times = 0;
                for (int i = 0; i < 9; i++) {
                    times += looksBehindFive("sssspsssssss", 1, seed + i).length() >= w ? 1 : 0;
                }
                Check.due("odds(0, " + w + ", 9, " + seed + ")", x.odds(0, w, 9, seed), times);
            }
        }
    }

    /** "from now on": nothing goes by */
    private static void oddsChangeNothing() {
        RungMoney x = Check.townOf(TOWN);
        x.winter(3);
        same("odds", x, y -> y.odds(0, 0, 30, 7), 30);
        Check.row("undo() of the one WINTER", new int[] {x.undo(), x.now(0)}, 0, 0);
    }

    /** "5 WINTERS DRAWN from now on": as far as there may be 99 */
    private static void oddsNear99() {
        int kind = 1;
        while (soundBehind(1, kind) == 0) {
            kind++;
        }
        for (int left = 0; left < 7; left++) {
            RungMoney x = Check.townOf("man a;ladder a s;rot 3;");
            for (int i = left; i < 99; i++) {
                x.winter(kind);
            }
            int times = 0;
            for (int seed = 1; seed <= 30; seed++) {
                times += soundBehind(Math.min(left, 5), seed);
            }
            Check.row("odds, " + left + " more WINTERS may come", new int[] {x.ladder(0, 3), x.now(0), x.odds(0, 1, 30, 1)},
                    1, 99 - left, times);
        }
    }

    /** Whether the one RUNG is sound behind some WINTERS by 'rot' 3: 1 or 0. */
    private static int soundBehind(int winters, int seed) {
        int x = seed;
        for (int i = 0; i < winters; i++) {
            x = x * 1103515245 + 12345;
            if ((x >>> 8) % 12 < 3) {
                return 0;
            }
        }
        return 1;
    }

    // ---- promises 38 and 39 ----

    private static final String[] WRONGS = {"a pays 3 b", "a pays 1 b", "a pays 0 c", "a pays 0 b", "a pays 4 b", "a pays 0 a",
        "saws 3 1", "saws 0 0", "saws 0 3", "saws 4 1", "splices 0 3", "splices 0 0", "splices 0 1", "splices 0 4",
        "splices 4 0", "a climbs 3", "a climbs 4", "burns 3", "burns 4", "paints 3 0", "paints 0 3", "paints 0 0", "paints 4 0"};
    private static final int[] WHY = {1, 1, 2, 3, 9, 9, 11, 12, 12, 19, 21, 21, 22, 29, 29, 31, 39, 41, 49, 51, 52, 53, 59};

    private static RungMoney wrongTown() {
        RungMoney x = Check.townOf("man a;man b;man c;ladder a sps;ladder b s;ladder a r;ladder c s;debt a b 2;rot 0;");
        x.burn(3);
        return x;
    }

    private static void ledger() {
        ledgerAnother();
        ledgerJudged();
        ledgerLived();
        ledgerFault();
        ledgerEmpty();
    }

    /** "-1000: another lives (the tape stays)" */
    private static void ledgerAnother() {
        RungMoney x = wrongTown();
        Check.put(x, "taxes;");
        for (int lives : new int[] {-1, 2, Integer.MIN_VALUE, Integer.MAX_VALUE}) {
            same("ledger(" + lives + ")", x, y -> y.ledger(lives), -1000);
        }
        Check.row("the tape stays", new int[] {x.count(3), x.ledger(1), x.now(2), x.count(3)}, 6, -1, 3, 0);
    }

    /** "it is judged, all staying as it is (lives 0)" */
    private static void ledgerJudged() {
        RungMoney x = wrongTown();
        String before = Check.allSo(x);
        Check.due("none is WRONG", Check.ledger(x, 0, "taxes;winter 1;burns 0;"), -1);
        Check.same("all stays", Check.allSo(x), before);
        Check.due("the LINE that is WRONG", Check.ledger(x, 0, "taxes;winter 1;burns 3;burns 0;"), 2);
        Check.same("all stays", Check.allSo(x), before);
        Check.due("undo() of the burning alone", x.undo(), 0);
    }

    /** "or lived as far as it is not WRONG (1): the LINE that is WRONG; NONE: none" */
    private static void ledgerLived() {
        for (int i = 0; i < WRONGS.length; i++) {
            RungMoney x = wrongTown();
            Check.due("the LINE of '" + WRONGS[i] + "'", Check.ledger(x, 1, "winter 1;winter 2;" + WRONGS[i] + ";taxes;"), 2);
            Check.row("lived that far", new int[] {x.now(0), x.now(2), x.told(0), x.told(1)}, 2, 0, WHY[i], 2);
            Check.due("the first LINE", Check.ledger(x, 1, WRONGS[i] + ";taxes;"), 0);
            Check.row("lived that far", new int[] {x.now(0), x.now(2), x.told(0), x.told(1)}, 2, 0, WHY[i], 0);
        }
        RungMoney z = Check.townOf("man a;man b;man c;ladder c ss;ladder b s;debt b a 1;debt c b 3;");
        Check.due("by their names", Check.ledger(z, 1, "b pays 1 a;a climbs 0;c pays 0 b;"), -1);
        Check.row("who paid", new int[] {z.man(0, 6), z.man(1, 6), z.man(2, 6), z.ladder(0, 0), z.ladder(1, 0), z.debt(2, 1)},
                0, 1, 1, 1, 0, 1);
        RungMoney y = wrongTown();
        Check.due("the fortieth LINE", Check.ledger(y, 1, "winter 1;".repeat(39) + "burns 3;"), 39);
        Check.row("lived that far", new int[] {y.now(0), y.told(1)}, 39, 39);
    }

    /** "-2 less the place of a FAULT": nothing is lived, what was told stays */
    private static void ledgerFault() {
        RungMoney x = wrongTown();
        Check.ledger(x, 0, "burns 3;");
        String before = Check.allSo(x);
        Check.row("a FAULT at once, a FAULT at the end", new int[] {Check.ledger(x, 1, "?"), Check.ledger(x, 1, "taxes;taxes")},
                -2, -13);
        Check.same("nothing is lived", Check.allSo(x), before);
        Check.row("told", new int[] {x.told(0), x.told(1)}, 41, 0);
    }

    /** "{ LINE ; }": without LINES none is WRONG */
    private static void ledgerEmpty() {
        RungMoney x = wrongTown();
        Check.row("empty", new int[] {Check.ledger(x, 0, ""), x.told(0), x.told(1), x.told(2), x.told(3)}, -1, 0, 0, 2, 7);
        RungMoney y = new RungMoney();
        Check.row("in an empty town", new int[] {y.ledger(1), y.told(0), y.told(1), y.told(2), y.told(3)}, -1, 0, 0, 0, 0);
    }

    private static void told() {
        toldAnother();
        toldWhy();
        toldThen();
    }

    /** "NONE: another what, or ahead of any" */
    private static void toldAnother() {
        RungMoney x = wrongTown();
        Check.row("ahead of any", new int[] {x.told(0), x.told(1), x.told(2), x.told(3)}, -1, -1, -1, -1);
        Check.ledger(x, 0, "?");
        x.ledger(2);
        Check.row("behind a FAULT and -1000", new int[] {x.told(0), x.told(1), x.told(2), x.told(3)}, -1, -1, -1, -1);
        Check.ledger(x, 0, "taxes;");
        for (int what : new int[] {-1, 4, Integer.MIN_VALUE, Integer.MAX_VALUE}) {
            same("told(" + what + ")", x, y -> y.told(what), -1);
        }
        x.ledger(2);
        Check.row("of the latest that had no FAULT", new int[] {x.told(0), x.told(1), x.told(2), x.told(3)}, 0, 1, 2, 1);
    }

    /** "10 more as for sawing, 20 for splicing, .. 70 for winters; 9 more than its sort: there is no such LADDER, alike MEN" */
    private static void toldWhy() {
        for (int i = 0; i < WRONGS.length; i++) {
            RungMoney x = wrongTown();
            Check.due("the LINE of '" + WRONGS[i] + "'", Check.ledger(x, 0, WRONGS[i] + ";"), 0);
            Check.due("why '" + WRONGS[i] + "'", x.told(0), WHY[i]);
        }
        RungMoney full = Check.townOf("man a;" + "ladder a ss;".repeat(16));
        Check.row("16 LADDERS", new int[] {Check.ledger(full, 0, "saws 15 1;"), full.told(0)}, 0, 13);
        RungMoney tall = Check.townOf("man a;ladder a ssssssssssss;ladder a ssssssssssss;ladder a sssssssss;ladder a ssssssss;");
        Check.row("33 RUNGS", new int[] {Check.ledger(tall, 0, "splices 0 1;splices 0 2;"), tall.told(0)}, 1, 23);
        Check.row("32 RUNGS", new int[] {Check.ledger(tall, 0, "splices 0 1;splices 0 3;"), tall.told(0)}, -1, 0);
        RungMoney none = new RungMoney();
        Check.row("no LADDER", new int[] {Check.ledger(none, 0, "taxes;"), none.told(0)}, 0, 61);
        Check.row("no such LADDER", new int[] {Check.ledger(none, 0, "burns 0;"), none.told(0)}, 0, 49);
        none.drawn(30, 1);
        none.drawn(30, 1);
        none.drawn(30, 1);
        none.drawn(8, 1);
        Check.row("99 WINTERS", new int[] {Check.ledger(none, 0, "winter 1;"), none.told(0)}, -1, 0);
        Check.row("100 WINTERS", new int[] {Check.ledger(none, 0, "winter 1;winter 1;"), none.told(0)}, 1, 71);
    }

    /** "1 LINES that are not, 2 all debts then, 3 LADDERS that are there then, as bits" */
    private static void toldThen() {
        RungMoney x = wrongTown();
        Check.row("judged", new int[] {Check.ledger(x, 0, "a pays 2 b;saws 0 2;a pays 4 b;burns 1;burns 1;burns 0;"), x.told(0),
            x.told(1), x.told(2), x.told(3)}, 4, 41, 4, 1, 21);
        Check.row("as it is", new int[] {x.now(3), x.now(1)}, 2, 7);
        x.burn(0);
        Check.row("then, not now", new int[] {x.told(2), x.told(3)}, 1, 21);
    }

    // ---- promises 40 and 41 ----

    /** "-1 less the place of a FAULT: it stays" */
    private static void sentence() {
        RungMoney x = wrongTown();
        Check.sentence(x, "number > 1");
        for (String text : new String[] {"", "?", "of z", "gone or", "not ".repeat(9) + "gone", "gone" + " ".repeat(197)}) {
            Check.due("a FAULT of '" + text + "'", Check.sentence(x, text) < 0, true);
            Check.row("it stays", new int[] {x.said(-1), x.said(0), x.said(1)}, 2, 2, 3);
        }
        RungMoney y = wrongTown();
        Check.sentence(y, "?");
        Check.due("none ahead, none behind a FAULT", y.said(-1), -1);
    }

    private static void said() {
        saidNoSentence();
        saidNoneSuch();
        saidOfSixteen();
        saidNow();
    }

    /** "NONE: there is no SENTENCE" */
    private static void saidNoSentence() {
        RungMoney x = wrongTown();
        String before = Check.state(x);
        for (int k : new int[] {-1, 0, 1, -2, Integer.MIN_VALUE, Integer.MAX_VALUE}) {
            Check.due("said(" + k + ")", x.said(k), -1);
        }
        Check.same("behind them all", Check.state(x), before);
    }

    /** "none such" */
    private static void saidNoneSuch() {
        RungMoney x = wrongTown();
        Check.sentence(x, "of a");
        Check.row("how many, the first, the second, a third", new int[] {x.said(-1), x.said(0), x.said(1), x.said(2)}, 2, 0, 2, -1);
        for (int k : new int[] {-2, 16, 99, Integer.MIN_VALUE, Integer.MAX_VALUE}) {
            Check.due("said(" + k + ")", x.said(k), -1);
        }
        Check.sentence(x, "long > 31");
        Check.row("of none", new int[] {x.said(-1), x.said(0)}, 0, -1);
        RungMoney y = new RungMoney();
        Check.sentence(y, "not gone");
        Check.row("in an empty town", new int[] {y.said(-1), y.said(0)}, 0, -1);
    }

    /** "how many (k NONE), or the k-th": as many as there can be */
    private static void saidOfSixteen() {
        RungMoney x = Check.townOf("man a;" + "ladder a s;".repeat(16));
        Check.sentence(x, "not gone");
        Check.row("all", new int[] {x.said(-1), x.said(0), x.said(15), x.said(16)}, 16, 0, 15, -1);
        x.burn(0);
        Check.row("one less", new int[] {x.said(-1), x.said(0), x.said(14), x.said(15)}, 15, 1, 15, -1);
    }

    /** "It is said of LADDERS", those that came later, too */
    private static void saidNow() {
        RungMoney x = Check.townOf("man a;man b;ladder a ss;debt a b 9;");
        Check.sentence(x, "long = 1");
        Check.due("none", x.said(-1), 0);
        x.saw(0, 1);
        Check.row("both", new int[] {x.said(-1), x.said(0), x.said(1)}, 2, 0, 1);
        Check.sentence(x, "of b");
        Check.due("none", x.said(-1), 0);
        x.pay(0, 1, 1);
        Check.row("the one that was paid", new int[] {x.said(-1), x.said(0)}, 1, 1);
    }
}
