/** Promises 4 and 5: towns told as texts, and their faults. */
public final class TownTest {
    private static final String TWO = "man m;man q;";

    public static void main(String[] args) {
        wellTold();
        tokens();
        places();
        numbers();
        names();
        tooMany();
        theMostBytes();
        whatStays();
        Check.finish();
    }

    private static void fault(String text, int place, int kind) {
        RungMoney x = new RungMoney();
        Check.due("town() of " + text, Check.town(x, text), -1 - place);
        Check.due("fault() of " + text, x.fault(), kind);
    }

    private static void well(String text, int lines) {
        RungMoney x = new RungMoney();
        Check.due("town() of " + text, Check.town(x, text), lines);
        Check.due("fault() of " + text, x.fault(), 0);
    }

    private static void wellTold() {
        well("", 0);
        well(" \n ", 0);
        well("man m;", 1);
        well("\nman\nm\n;\n", 1);
        well("man abcdefg;", 1);
        well("man s;man sr;ladder s s;ladder sr srp;", 4);
        well("man sound;man pay;man mint;man foot;", 4);
        well("man m;ladder m ssssssssssss;", 2);
        well(TWO + "debt m q 1;debt q m 250;", 4);
        well(TWO + "debt m q 001;", 3);
        well("rot 0;", 1);
        well("rot 12;", 1);
        well("rot 012;", 1);
        RungMoney x = Check.townOf("rot 7;man m;man q;debt q m 9;ladder q pr;");
        Check.row("count", new int[] {x.count(0), x.count(1), x.count(2)}, 2, 1, 7);
        Check.row("debts", new int[] {x.debt(0, 1), x.debt(1, 0)}, 0, 9);
        Check.due("the owner", x.ladder(0, 0), 1);
        Check.rungs(x, 0, "pr");
    }

    private static void tokens() {
        fault("man m!;", 5, 1);
        fault("man\tm;", 3, 1);
        fault("man m\r;", 5, 1);
        fault("man M;", 4, 1);
        fault("man m1;", 4, 1);
        fault("man 1m;", 4, 1);
        fault("man abcdefghijklm;", 4, 1);
        fault("man abcdefghijkl;", 4, 3);
        fault("rot 0001;", 4, 1);
        fault("rot12;", 0, 1);
        fault("rot 1a;", 4, 1);
        fault("rot -1;", 4, 1);
        fault("man m.", 5, 1);
        fault("man m" + (char) 233 + ";", 5, 1);
        fault("man m" + (char) 0 + ";", 5, 1);
        fault("manm;", 0, 1);
        fault("m12345678901234567890123456789012345678901;", 0, 1);
    }

    private static void places() {
        fault("man", 3, 1);
        fault("man ", 4, 1);
        fault("man m", 5, 1);
        fault("man m  \n", 8, 1);
        fault(";", 0, 1);
        fault("man m;;", 6, 1);
        fault("5;", 0, 1);
        fault("foo m;", 0, 1);
        fault("pays;", 0, 1);
        fault("man ;", 4, 1);
        fault("man 5;", 4, 1);
        fault("man m m;", 6, 1);
        fault("man m;ladder ;", 13, 1);
        fault("man m;ladder 5 s;", 13, 1);
        fault("man m;ladder m;", 14, 1);
        fault("man m;ladder m 5;", 15, 1);
        fault("man m;ladder m s", 16, 1);
        fault("man m;ladder m s s;", 17, 1);
        fault(TWO + "debt m q;", 20, 1);
        fault(TWO + "debt m 5;", 19, 1);
        fault(TWO + "debt m q x;", 21, 1);
        fault(TWO + "debt m q 1 1;", 23, 1);
        fault("rot;", 3, 1);
        fault("rot x;", 4, 1);
        fault("rot 1", 5, 1);
    }

    private static void numbers() {
        fault(TWO + "debt m q 0;", 21, 2);
        fault(TWO + "debt m q 251;", 21, 2);
        fault(TWO + "debt m q 999;", 21, 2);
        fault("rot 13;", 4, 2);
        fault("rot 999;", 4, 2);
    }

    private static void names() {
        fault("man abcdefgh;", 4, 3);
        fault("man m;man m;", 10, 3);
        fault("man m;ladder q s;", 13, 3);
        fault("ladder abcdefgh s;", 7, 3);
        fault("man m;ladder m sx;", 15, 3);
        fault("man m;ladder m rot;", 15, 3);
        fault("debt m q 1;", 5, 3);
        fault("man m;debt m q 1;", 13, 3);
        fault("man m;debt q m 1;", 11, 3);
        fault("man m;debt m m 1;", 13, 3);
        fault(TWO + "debt m q 1;debt m q 2;", 30, 3);
        fault(TWO + "debt m q 1;debt q m 2;debt q m 0;", 41, 3);
        fault("rot 1;rot 2;", 6, 3);
        fault("rot 1;rot", 6, 3);
        String[] told = {"man", "ladder", "debt", "rot", "pays", "climbs", "saws", "splices", "burns", "paints", "taxes",
            "winter", "or", "and", "not", "gone", "bears", "false", "of", "long", "looks", "worth", "number"};
        for (String word : told) {
            fault("man " + word + ";", 4, 1);
            fault("man m;ladder " + word + " s;", 13, 1);
            fault("man m;debt m " + word + " 1;", 13, 1);
        }
    }

    private static void tooMany() {
        String six = "man a;man b;man c;man d;man e;man f;";
        well(six, 6);
        fault(six + "man g;", 36, 4);
        fault(six + "man", 36, 4);
        String ladders = "man m;" + Check.repeat("ladder m s;", 16);
        well(ladders, 17);
        fault(ladders + "\n ladder m s;", 184, 4);
        fault(ladders + "ladder q x;", 182, 4);
        StringBuilder debts = new StringBuilder(six);
        for (int i = 0; i < 20; i++) {
            debts.append("debt ").append("abcdef".charAt(i / 5)).append(' ');
            debts.append("abcdef".charAt(i % 5 + (i % 5 >= i / 5 ? 1 : 0))).append(" 250;");
        }
        well(debts.toString(), 26);
        fault(debts + "debt f a 1;", debts.length(), 4);
        well(debts + "rot 3;", 27);
    }

    private static void theMostBytes() {
        String blanks = Check.repeat(" ", 894);
        well(blanks + "man m;", 1);
        fault(blanks + "man m; ", 900, 1);
        fault(blanks + " man m;", 900, 1);
        fault(blanks + "  man m;", 900, 1);
        fault(blanks + "man mm;", 900, 1);
        // a token that begins ahead of it is read whole
        fault(Check.repeat(" ", 895) + "man abcdefgh;", 899, 3);
        fault(Check.repeat(" ", 899) + "mans m;", 899, 1);
        fault(Check.repeat(" ", 898) + "man m;", 900, 1);
        fault(Check.repeat(" ", 940), 900, 1);
        fault(Check.repeat(" ", 905) + "?", 900, 1);
        // a fault ahead of it is the first
        fault("?" + Check.repeat(" ", 920), 0, 1);
        fault("man" + Check.repeat(" ", 920), 900, 1);
        fault(Check.repeat(" ", 900) + ";", 900, 1);
        fault(Check.repeat(" ", 899) + ";;", 899, 1);
        fault("rot 1;" + Check.repeat(" ", 894) + "rot 1;", 900, 1);
        fault("rot 1;" + Check.repeat(" ", 893) + "rot 1;", 899, 3);
        well(Check.repeat(" ", 900), 0);
    }

    /** Judging, drawing and striking may leave nothing of the old town in the new one. */
    private static void nothingIsLeft() {
        RungMoney x = Check.townOf("man m;man q;ladder m ssss;ladder m s;debt m q 5;debt q m 2;rot 4;");
        x.pay(0, 1, 1);
        Check.ledger(x, 0, "saws 0 1;taxes;winter 3;");
        x.strike();
        x.odds(0, 1, 9, 1);
        Check.town(x, "man a;man b;ladder b p;");
        for (int what = 0; what < 8; what++) {
            Check.due("now(" + what + ")", x.now(what), new int[] {0, 1, 0, 0, 1, 0, 1, 0}[what]);
        }
        Check.row("the rest", new int[] {x.debt(0, 1), x.debt(1, 0), x.man(0, 6), x.man(1, 6), x.count(1), x.count(2)},
                0, 0, 0, 0, 1, 1);
        String debts = "man a;man b;man c;man d;";
        for (int i = 0; i < 12; i++) {
            debts += "debt " + "abcd".charAt(i / 3) + " " + "abcd".charAt(i % 3 + (i % 3 >= i / 3 ? 1 : 0)) + " 1;";
        }
        Check.row("a town of many debts, twice", new int[] {Check.town(x, debts), Check.town(x, debts)}, 16, 16);
        Check.row("a town with rot, twice", new int[] {Check.town(x, "rot 3;"), Check.town(x, "rot 2;")}, 1, 1);
    }

    private static void whatStays() {
        RungMoney x = Check.townOf("man m;man q;ladder m ssp;debt m q 5;rot 4;");
        x.taxes();
        x.winter(1);
        Check.sentence(x, "gone");
        Check.due("a town with a fault", Check.town(x, "man z;?"), -7);
        Check.row("all stays", new int[] {x.count(0), x.count(1), x.count(2), x.now(0), x.now(2), x.said(-1)},
                2, 1, 4, 1, 1, 0);
        Check.due("undo behind a town with a fault", x.undo(), 1);
        Check.due("a new town", Check.town(x, "man z;"), 1);
        Check.row("all is new", new int[] {x.count(0), x.count(1), x.count(2), x.now(0), x.now(2), x.now(7), x.said(-1)},
                1, 0, 1, 0, 0, 0, -1);
        Check.due("undo behind a new town", x.undo(), -1);
        Check.due("payments", x.man(0, 6), 0);

        nothingIsLeft();
        Check.put(x, "rot 13;");
        x.town();
        Check.due("fault", x.fault(), 2);
        Check.due("a ledger that is not read", x.ledger(7), -1000);
        Check.due("leaves it", x.fault(), 2);
        Check.ledger(x, 0, "");
        Check.due("a ledger without one", x.fault(), 0);
        Check.sentence(x, "");
        Check.due("a sentence with one", x.fault(), 1);
        x.taxes();
        Check.due("stays", x.fault(), 1);
        Check.forgers(x, 9);
        Check.due("stays", x.fault(), 1);
        Check.sentence(x, "gone");
        Check.due("a sentence without one", x.fault(), 0);
    }
}
