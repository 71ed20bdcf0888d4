/** Promises 38 and 39: ledgers. */
public final class LedgerTest {
    private static final String TOWN = "man a;man b;ladder a srp;ladder a ss;ladder b s;debt a b 4;rot 0;";

    public static void main(String[] args) {
        lived();
        judged();
        wrong();
        faults();
        Check.finish();
    }

    private static int[] told(RungMoney x) {
        return new int[] {x.told(0), x.told(1), x.told(2), x.told(3)};
    }

    private static void lived() {
        RungMoney x = Check.townOf(TOWN);
        Check.due("ledger(1)", Check.ledger(x, 1, "a pays 1 b; saws 0 2;splices 1 2;\nb climbs 0;burns 3;paints 0 1;"
                + "taxes;winter 99;"), -1);
        Check.row("told", told(x), 0, 8, 2, 3);
        Check.rungs(x, 0, "s");
        Check.rungs(x, 1, "ss");
        Check.row("behind it", new int[] {x.now(0), x.now(2), x.now(3), x.now(7), x.man(0, 6), x.ladder(1, 0),
            x.ladder(1, 5)}, 1, 2, 2, 1, 1, 1, 3);
        RungMoney y = Check.townOf("man a;man b;ladder b sp;ladder b s;debt b a 3;");
        Check.due("he who pays", Check.ledger(y, 1, "b pays 1 a;b pays 0 a;"), -1);
        Check.row("behind it", new int[] {y.man(0, 6), y.man(1, 6), y.debt(1, 0), y.man(0, 0)}, 0, 2, 0, 3);
        Check.due("as far as it is not wrong", Check.ledger(x, 1, "taxes;burns 0;taxes;"), 1);
        Check.row("told", told(x), 41, 1, 2, 2);
        Check.row("behind it", new int[] {x.now(2), x.now(1)}, 4, 2);
        Check.row("undone as one", new int[] {x.undo(), x.now(1), x.undo(), x.now(1), x.undo()}, 1, 3, 0, 7, -1);
    }

    private static void judged() {
        RungMoney x = Check.townOf(TOWN);
        Check.row("told ahead of any", told(x), -1, -1, -1, -1);
        Check.due("ledger(0)", Check.ledger(x, 0, "a pays 1 b;burns 0;taxes;"), -1);
        Check.row("told", told(x), 0, 3, 2, 2);
        Check.row("all stays", new int[] {x.now(1), x.now(2), x.now(3), x.man(0, 6), x.undo()}, 7, 0, 4, 0, -1);
        Check.due("ledger(0)", Check.ledger(x, 0, "burns 1;a pays 1 b;taxes;"), 1);
        Check.row("told", told(x), 1, 1, 4, 5);
        Check.due("an empty one", Check.ledger(x, 0, ""), -1);
        Check.row("told", told(x), 0, 0, 4, 7);
        Check.due("a fault", Check.ledger(x, 0, "taxes;x"), -8);
        Check.due("a fault lives nothing", Check.ledger(x, 1, "taxes;x"), -8);
        Check.row("and leaves what was told", told(x), 0, 0, 4, 7);
        Check.row("another what", new int[] {x.told(4), x.told(-1)}, -1, -1);
        Check.row("another lives", new int[] {x.ledger(2), x.ledger(-1), x.now(2)}, -1000, -1000, 0);
        Check.row("leaves what was told", told(x), 0, 0, 4, 7);
    }

    private static void wrong(String text, int why) {
        RungMoney x = Check.townOf("man a;man b;man c;ladder a sr;ladder a ss;ladder b pppp;ladder b s;debt a b 1;rot 0;");
        x.burn(3);
        Check.due("the line of " + text, Check.ledger(x, 0, "winter 0;" + text + ";taxes;"), 1);
        Check.due("why " + text, x.told(0), why);
        Check.due("lines that are not", x.told(1), 1);
    }

    private static void wrong() {
        wrong("a pays 3 b", 1);
        wrong("a pays 2 b", 1);
        wrong("a pays 1 c", 2);
        wrong("a pays 1 b", 3);
        wrong("a pays 4 b", 9);
        wrong("a pays 1 a", 9);
        wrong("saws 3 1", 11);
        wrong("saws 0 0", 12);
        wrong("saws 0 2", 12);
        wrong("saws 0 31", 12);
        wrong("saws 9 1", 19);
        wrong("splices 0 3", 21);
        wrong("splices 0 0", 21);
        wrong("splices 0 2", 22);
        wrong("splices 0 4", 29);
        wrong("splices 15 0", 29);
        wrong("a climbs 3", 31);
        wrong("a climbs 15", 39);
        wrong("burns 3", 41);
        wrong("burns 4", 49);
        wrong("paints 3 0", 51);
        wrong("paints 0 2", 52);
        wrong("paints 0 0", 53);
        wrong("paints 7 0", 59);
        RungMoney x = Check.townOf("man a;ladder a ssssssssssss;ladder a ssssssssssss;ladder a ssssssssssss;");
        Check.due("too long", Check.ledger(x, 0, "splices 0 1;splices 0 2;"), 1);
        Check.due("why", x.told(0), 23);
        RungMoney y = Check.townOf("man a;" + Check.repeat("ladder a ss;", 16));
        Check.due("too many", Check.ledger(y, 0, "saws 0 1;"), 0);
        Check.due("why", y.told(0), 13);
        RungMoney z = Check.townOf("man a;ladder a s;");
        Check.due("no ladder", Check.ledger(z, 1, "taxes;taxes;"), 1);
        Check.due("why", z.told(0), 61);
        z.drawn(30, 1);
        z.drawn(30, 1);
        z.drawn(30, 1);
        z.drawn(8, 1);
        Check.due("too many winters", Check.ledger(z, 1, "winter 1;winter 1;"), 1);
        Check.row("why", new int[] {z.told(0), z.now(0)}, 71, 99);
    }

    private static void fault(String text, int place, int kind) {
        RungMoney x = Check.townOf(TOWN);
        Check.due("ledger(0) of " + text, Check.ledger(x, 0, text), -2 - place);
        Check.due("fault() of " + text, x.fault(), kind);
        Check.due("told stays", x.told(0), -1);
    }

    private static void faults() {
        fault("taxes", 5, 1);
        fault("taxes;;", 6, 1);
        fault("man a;", 0, 1);
        fault("pays 1 b;", 0, 1);
        fault("climbs 1;", 0, 1);
        fault("or;", 0, 1);
        fault("5;", 0, 1);
        fault("a saws 1 1;", 2, 1);
        fault("a b;", 2, 1);
        fault("a;", 1, 1);
        fault("a pays b 1;", 7, 1);
        fault("a pays 1 taxes;", 9, 1);
        fault("a pays 1;", 8, 1);
        fault("a pays 1 5;", 9, 1);
        fault("a pays 1 b b;", 11, 1);
        fault("saws 1;", 6, 1);
        fault("saws 1 b;", 7, 1);
        fault("burns 1 1;", 8, 1);
        fault("taxes 1;", 6, 1);
        fault("winter;", 6, 1);
        fault("winter 0100;", 7, 1);
        fault("winter 100;", 7, 2);
        fault("burns 16;", 6, 2);
        fault("saws 16 1;", 5, 2);
        fault("saws 15 32;", 8, 2);
        fault("splices 0 16;", 10, 2);
        fault("splices 16 0;", 8, 2);
        fault("paints 0 32;", 9, 2);
        fault("paints 16 0;", 7, 2);
        fault("a pays 16 b;", 7, 2);
        fault("a climbs 16;", 9, 2);
        fault("z climbs 1;", 0, 3);
        fault("abcdefgh climbs 1;", 0, 3);
        fault("a pays 1 z;", 9, 3);
        String forty = Check.repeat("taxes;", 40);
        RungMoney x = Check.townOf(TOWN);
        Check.due("forty lines", Check.ledger(x, 0, forty), 3);
        fault(forty + "taxes;", 240, 4);
        fault(forty + " taxes", 241, 4);
        fault(forty + "a pays 1 a;", 240, 4);
        fault(forty + "z pays 1 a;", 240, 3);
        fault(forty + "pays 1 a;", 240, 1);
        fault(forty + ";", 240, 1);
        String blanks = Check.repeat(" ", 394);
        Check.due("400 bytes", Check.ledger(x, 0, blanks + "taxes;"), -1);
        fault(blanks + " taxes;", 400, 1);
        fault(blanks + "taxes; ", 400, 1);
        fault(Check.repeat(" ", 399) + "zzzzzzzz 1", 399, 3);
        fault(Check.repeat(" ", 401), 400, 1);
    }
}
