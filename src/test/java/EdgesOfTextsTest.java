/**
 * Boundary cases of the terms: TOKENS, TOWN, LEDGER, SENTENCE, FAULTS. Each method has one sentence of the document, whose
 * words stand above it; what is just allowed and what is just not are tried.
 */
public final class EdgesOfTextsTest {
    private static final String TWO = "man m;man q;";
    private static final String SIX = "man a;man b;man c;man d;man e;man f;";

    public static void main(String[] args) {
        tokens();
        towns();
        ledgers();
        sentences();
        faults();
        Check.finish();
    }

    // ---- how a text is judged ----

    private static void townWell(String text, int lines) {
        RungMoney x = new RungMoney();
        Check.due("town() of '" + text + "'", Check.town(x, text), lines);
        Check.due("fault() of '" + text + "'", x.fault(), 0);
    }

    private static void townFault(String text, int place, int kind) {
        RungMoney x = new RungMoney();
        Check.due("town() of '" + text + "'", Check.town(x, text), -1 - place);
        Check.due("fault() of '" + text + "'", x.fault(), kind);
    }

    private static RungMoney small() {
        return Check.townOf("man a;man b;ladder a srp;ladder a ss;ladder b s;debt a b 4;rot 0;");
    }

    private static void ledgerWell(String text, int answer) {
        RungMoney x = small();
        Check.due("ledger(0) of '" + text + "'", Check.ledger(x, 0, text), answer);
        Check.due("fault() of '" + text + "'", x.fault(), 0);
    }

    private static void ledgerFault(String text, int place, int kind) {
        for (int lives = 0; lives < 2; lives++) {
            RungMoney x = small();
            Check.due("ledger(" + lives + ") of '" + text + "'", Check.ledger(x, lives, text), -2 - place);
            Check.due("fault() of '" + text + "'", x.fault(), kind);
        }
    }

    private static void sentenceWell(String text, int ones) {
        RungMoney x = small();
        Check.due("sentence() of '" + text + "'", Check.sentence(x, text), ones);
        Check.due("fault() of '" + text + "'", x.fault(), 0);
    }

    private static void sentenceFault(String text, int place, int kind) {
        RungMoney x = small();
        Check.due("sentence() of '" + text + "'", Check.sentence(x, text), -1 - place);
        Check.due("fault() of '" + text + "'", x.fault(), kind);
    }

    private static String blanks(int n) {
        return " ".repeat(n);
    }

    // ---- TOKENS ----

    private static void tokens() {
        blanksAre32And10();
        wordsOf1To12();
        numbersOf1To3();
        goesOnAsLongAs();
        smallLettersAndDigits();
        signs();
    }

    /** "with blanks (32, 10) between them or not" */
    private static void blanksAre32And10() {
        townWell("man m;man q;", 2);
        townWell(" \n man\n\n m \n;\nman q\n;  ", 2);
        townWell("man\nm;", 1);
        ledgerWell("a pays 1 b;b climbs 0;", -1);
        ledgerWell("a\npays\n1\nb\n;\n", -1);
        sentenceWell("(long<3)or(of a)", 4);
        sentenceWell(" ( long < 3 )\nor ( of\na )", 4);
        for (int c : new int[] {0, 9, 11, 12, 13, 31, 33, 127, 133, 160, 255}) {
            townFault("man" + (char) c + "m;", 3, 1);
            ledgerFault("taxes" + (char) c + ";", 5, 1);
            sentenceFault("gone" + (char) c, 4, 1);
        }
    }

    /** "WORDS: small letters, 1 to 12" */
    private static void wordsOf1To12() {
        townWell("man m;ladder m s;", 2);
        townWell("man m;ladder m ssssssssssss;", 2);
        townFault("man m;ladder m sssssssssssss;", 15, 1);
        townFault("man abcdefghijkl;", 4, 3);
        townFault("man abcdefghijklm;", 4, 1);
        townFault("abcdefghijklm;", 0, 1);
        ledgerFault("abcdefghijkl climbs 1;", 0, 3);
        ledgerFault("abcdefghijklm climbs 1;", 0, 1);
        sentenceFault("of abcdefghijkl", 3, 3);
        sentenceFault("of abcdefghijklm", 3, 1);
        // a long one that would be 'man' if its first letters were lost
        townFault("a".repeat(40) + "man m;", 0, 1);
    }

    /** "NUMBERS: 1 to 3 digits" */
    private static void numbersOf1To3() {
        townWell("rot 1;", 1);
        townWell("rot 01;", 1);
        townWell("rot 012;", 1);
        townFault("rot 0012;", 4, 1);
        townFault("rot 0000;", 4, 1);
        ledgerWell("winter 099;", -1);
        ledgerFault("winter 0099;", 7, 1);
        sentenceWell("long > 000", 1);
        sentenceWell("long > 999", 1);
        sentenceFault("long > 1000", 7, 1);
        sentenceFault("long > 0999", 7, 1);
        // its value would be 0 again, if it wrapped round
        townFault("rot 4294967296;", 4, 1);
        sentenceFault("long > 18446744073709551616", 7, 1);
    }

    /** "A WORD, NUMBER goes on as long as small letters and digits do; what is not as told is no TOKEN." */
    private static void goesOnAsLongAs() {
        townFault("man m1;", 4, 1);
        townFault("man 1m;", 4, 1);
        townFault("rot12;", 0, 1);
        townFault("rot 12rot;", 4, 1);
        ledgerFault("winter5;", 0, 1);
        ledgerFault("a pays 1b;", 7, 1);
        sentenceFault("long<3or gone", 5, 1);
        sentenceWell("long<3 or gone", 2);
        sentenceWell("not(gone)", 3);
        sentenceFault("notgone", 0, 1);
    }

    /** "small letters", "digits": what stands next to them among the bytes is none. */
    private static void smallLettersAndDigits() {
        townWell("man az;man za;", 2);
        townWell("man m;man q;debt m q 109;", 3);
        for (char c : new char[] {'`', '{', '/', ':', '@', 'A', 'M', 'Z', '[', '_', (char) 225, (char) 0x6d + 128}) {
            townFault("man m" + c + ";", 5, 1);
            townFault("man " + c + "m;", 4, 1);
            townFault("rot 1" + c + ";", 5, 1);
        }
    }

    /** "; < = > ( ) ." */
    private static void signs() {
        for (char c : "<=>().".toCharArray()) {
            townFault("man m" + c, 5, 1);
            ledgerFault("taxes" + c, 5, 1);
        }
        sentenceWell("long<1 or long=1 or(long>1)", 4);
        for (char c : ";.!?".toCharArray()) {
            sentenceFault("gone" + c, 4, 1);
            sentenceFault("long" + c + "1", 4, 1);
        }
    }

    // ---- TOWN ----

    private static void towns() {
        townOf900Bytes();
        anyLines();
        rungsOfThreeLetters();
        debtsOf1To250();
        debtsUnlike();
        debtsOnceInThisOrder();
        rot0To12();
        rotOnce();
        rotWithout();
        namesOf7Letters();
        namesNoneOfThose();
        namesToldOnce();
        sixMen();
        sixteenLadders();
        twentyDebts();
        numberedFrom0();
    }

    /** "A TOWN is a text of at most 900 bytes" */
    private static void townOf900Bytes() {
        townWell(blanks(894) + "man m;", 1);
        townFault(blanks(895) + "man m;", 900, 1);
        townWell("man m;" + blanks(894), 1);
        townFault("man m;" + blanks(895), 900, 1);
        townFault("man m;" + blanks(934), 900, 1);
        townWell("\n".repeat(900), 0);
        townFault("\n".repeat(901), 900, 1);
        townFault("\n".repeat(940), 900, 1);
    }

    /** "{ LINE ; }": none, too; each ends with its own ; */
    private static void anyLines() {
        townWell("", 0);
        townWell(" ", 0);
        townFault(";", 0, 1);
        townFault("man m;;", 6, 1);
        townFault("man m", 5, 1);
        townFault("man m man q;", 6, 1);
        townWell("rot 1;man m;ladder m s;man q;debt q m 1;ladder q r;", 6);
    }

    /** "RUNGS (a WORD of letters s, r, p alone)" */
    private static void rungsOfThreeLetters() {
        for (char c = 'a'; c <= 'z'; c++) {
            if (c == 's' || c == 'r' || c == 'p') {
                townWell("man m;ladder m " + c + ";", 2);
            } else {
                townFault("man m;ladder m " + c + ";", 15, 3);
                townFault("man m;ladder m srpsrpsrpsr" + c + ";", 15, 3);
            }
        }
        townFault("man m;ladder m 1;", 15, 1);
        townFault("man m;ladder m ;", 15, 1);
        RungMoney x = Check.townOf("man m;ladder m srpsrpsrpsrp;");
        Check.rungs(x, 0, "srpsrpsrpsrp");
    }

    /** "(the first owes the second; unlike; 1 to 250 ..." */
    private static void debtsOf1To250() {
        townFault(TWO + "debt m q 0;", 21, 2);
        townFault(TWO + "debt m q 000;", 21, 2);
        townWell(TWO + "debt m q 1;", 3);
        townWell(TWO + "debt m q 250;", 3);
        townFault(TWO + "debt m q 251;", 21, 2);
        townFault(TWO + "debt m q 999;", 21, 2);
    }

    /** "unlike" */
    private static void debtsUnlike() {
        townFault(TWO + "debt m m 1;", 19, 3);
        townFault(TWO + "debt q q 1;", 19, 3);
        townWell(TWO + "debt q m 1;", 3);
    }

    /** "each two once in this order" */
    private static void debtsOnceInThisOrder() {
        townWell(TWO + "debt m q 1;debt q m 1;", 4);
        townFault(TWO + "debt m q 1;debt m q 1;", 30, 3);
        townFault(TWO + "debt m q 1;debt q m 1;debt q m 1;", 41, 3);
    }

    /** "'rot' N (0 to 12" */
    private static void rot0To12() {
        for (int n = 0; n <= 12; n++) {
            townWell("rot " + n + ";", 1);
            Check.due("count(2)", Check.townOf("rot " + n + ";").count(2), n);
        }
        townFault("rot 13;", 4, 2);
        townFault("rot 999;", 4, 2);
    }

    /** "once" */
    private static void rotOnce() {
        townFault("rot 1;rot 1;", 6, 3);
        townFault("rot 0;man m;rot 0;", 12, 3);
        RungMoney x = Check.townOf("rot 1;");
        Check.due("once in each town", Check.town(x, "rot 2;"), 1);
    }

    /** "1 without)" */
    private static void rotWithout() {
        Check.due("count(2)", Check.townOf("man m;").count(2), 1);
        RungMoney x = Check.townOf("rot 7;");
        Check.town(x, "");
        Check.due("count(2) of the next town", x.count(2), 1);
    }

    /** "NAME: a WORD of 7 letters at most" */
    private static void namesOf7Letters() {
        townWell("man a;", 1);
        townWell("man abcdefg;ladder abcdefg s;", 2);
        townFault("man abcdefgh;", 4, 3);
    }

    /** "none of those told here, in a LEDGER or a SENTENCE" */
    private static void namesNoneOfThose() {
        String[] told = {"man", "ladder", "debt", "rot", "pays", "climbs", "saws", "splices", "burns", "paints", "taxes",
            "winter", "or", "and", "not", "gone", "bears", "false", "of", "long", "looks", "worth", "number"};
        for (String word : told) {
            townFault("man " + word + ";", 4, 1);
            if (word.length() > 2) {
                townWell("man " + word.substring(1) + ";", 1);
            }
            if (word.length() < 7) {
                townWell("man " + word + "z;", 1);
            }
        }
    }

    /** "told once" */
    private static void namesToldOnce() {
        townFault("man m;man m;", 10, 3);
        townFault(TWO + "man r;man q;", 22, 3);
        townWell("man m;man mm;man mmm;", 3);
        RungMoney x = Check.townOf("man m;");
        Check.due("once in each town", Check.town(x, "man m;"), 1);
    }

    /** "6 MEN .. at most" */
    private static void sixMen() {
        townWell(SIX, 6);
        townFault(SIX + "man g;", 36, 4);
        Check.due("count(0)", Check.townOf(SIX).count(0), 6);
    }

    /** "16 LADDERS .. at most" */
    private static void sixteenLadders() {
        String full = "man m;" + "ladder m s;".repeat(16);
        townWell(full, 17);
        townFault(full + "ladder m s;", 182, 4);
        townWell(full + "man q;rot 3;", 19);
        Check.due("count(1)", Check.townOf(full).count(1), 16);
        Check.due("now(1)", Check.townOf(full).now(1), 65535);
    }

    private static String debts(int n) {
        StringBuilder text = new StringBuilder(SIX);
        for (int i = 0; i < n; i++) {
            int m = i / 5;
            int o = i % 5 + (i % 5 >= m ? 1 : 0);
            text.append("debt ").append("abcdef".charAt(m)).append(' ').append("abcdef".charAt(o)).append(" 250;");
        }
        return text.toString();
    }

    /** "20 debts at most" */
    private static void twentyDebts() {
        townWell(debts(20), 26);
        townFault(debts(21), debts(20).length(), 4);
        townFault(debts(30), debts(20).length(), 4);
        Check.due("now(3)", Check.townOf(debts(20)).now(3), 5000);
    }

    /** "MEN, LADDERS numbered from 0 each" */
    private static void numberedFrom0() {
        RungMoney x = Check.townOf("man m;ladder m s;man q;ladder q sp;");
        Check.row("who has them", new int[] {x.ladder(0, 0), x.ladder(1, 0), x.ladder(0, 1), x.ladder(1, 1)}, 0, 1, 1, 2);
    }

    // ---- LEDGER ----

    private static void ledgers() {
        ledgerOf400Bytes();
        fortyLines();
        aManAheadOrNot();
        ladders0To15();
        rungs0To31();
        seeds0To99();
    }

    /** "A LEDGER is a text of at most 400 bytes" */
    private static void ledgerOf400Bytes() {
        ledgerWell(blanks(394) + "taxes;", -1);
        ledgerFault(blanks(395) + "taxes;", 400, 1);
        ledgerWell("taxes;" + blanks(394), -1);
        ledgerFault("taxes;" + blanks(395), 400, 1);
        ledgerFault("taxes;" + blanks(934), 400, 1);
        ledgerWell(blanks(400), -1);
        ledgerFault(blanks(401), 400, 1);
    }

    /** "{ LINE ; }, 40 at most" */
    private static void fortyLines() {
        ledgerWell("", -1);
        ledgerWell("winter 1;".repeat(40), -1);
        RungMoney x = small();
        Check.ledger(x, 0, "winter 1;".repeat(40));
        Check.due("told(1)", x.told(1), 40);
        ledgerFault("winter 1;".repeat(41), 360, 4);
        ledgerFault("taxes;".repeat(66), 240, 4);
        ledgerFault("taxes;".repeat(40) + "\n  taxes;", 243, 4);
        ledgerFault(";", 0, 1);
    }

    /** "MAN ( 'pays' .. | 'climbs' LADDER ) | 'saws' .." */
    private static void aManAheadOrNot() {
        ledgerFault("pays 1 b;", 0, 1);
        ledgerFault("climbs 1;", 0, 1);
        for (String act : new String[] {"saws 0 1", "splices 0 1", "burns 0", "paints 0 1", "taxes", "winter 1"}) {
            ledgerWell(act + ";", -1);
            ledgerFault("a " + act + ";", 2, 1);
            ledgerFault(act + " 1;", act.length() + 1, 1);
            ledgerFault(act, act.length(), 1);
        }
        ledgerFault("a;", 1, 1);
        ledgerFault("a pays 1;", 8, 1);
        ledgerFault("a climbs 1 b;", 11, 1);
    }

    /** "(LADDER: a number 0 to 15" */
    private static void ladders0To15() {
        ledgerWell("burns 0;", -1);
        ledgerWell("burns 15;", 0);
        ledgerFault("burns 16;", 6, 2);
        ledgerWell("a pays 15 b;", 0);
        ledgerFault("a pays 16 b;", 7, 2);
        ledgerWell("a climbs 15;", 0);
        ledgerFault("a climbs 16;", 9, 2);
        ledgerWell("saws 15 1;", 0);
        ledgerFault("saws 16 1;", 5, 2);
        ledgerWell("paints 15 1;", 0);
        ledgerFault("paints 16 1;", 7, 2);
        ledgerWell("splices 15 15;", 0);
        ledgerFault("splices 16 15;", 8, 2);
        ledgerFault("splices 15 16;", 11, 2);
        ledgerFault("burns 999;", 6, 2);
    }

    /** "K 0 to 31" */
    private static void rungs0To31() {
        ledgerWell("saws 0 0;", 0);
        ledgerWell("saws 0 31;", 0);
        ledgerFault("saws 0 32;", 7, 2);
        ledgerWell("paints 0 0;", 0);
        ledgerWell("paints 0 31;", 0);
        ledgerFault("paints 0 32;", 9, 2);
    }

    /** "N 0 to 99: its seed" */
    private static void seeds0To99() {
        ledgerWell("winter 0;", -1);
        ledgerWell("winter 99;", -1);
        ledgerFault("winter 100;", 7, 2);
        for (int seed : new int[] {0, 1, 99}) {
            RungMoney x = Check.townOf("man a;ladder a ssssssssssss;rot 6;");
            RungMoney y = Check.townOf("man a;ladder a ssssssssssss;rot 6;");
            Check.ledger(x, 1, "winter " + seed + ";");
            y.winter(seed);
            Check.rungs(x, 0, Check.rungs(y, 0));
        }
    }

    // ---- SENTENCE ----

    private static void sentences() {
        sentenceOf200Bytes();
        neverEmpty();
        twentyOnes();
        eightWithin();
        whatBinds();
        goneAre0Long();
        bearsIsThere();
        anyNumber();
    }

    /** "A SENTENCE is a text of at most 200 bytes" */
    private static void sentenceOf200Bytes() {
        sentenceWell(blanks(196) + "gone", 1);
        sentenceFault(blanks(197) + "gone", 200, 1);
        sentenceWell("gone" + blanks(196), 1);
        sentenceFault("gone" + blanks(197), 200, 1);
        sentenceFault("gone" + blanks(936), 200, 1);
    }

    /** "COND: ALL { 'or' ALL }. ALL: ONE { 'and' ONE }": one ONE at least, and one behind each WORD that joins. */
    private static void neverEmpty() {
        sentenceFault("", 0, 1);
        sentenceFault("\n ", 2, 1);
        sentenceFault("()", 1, 1);
        sentenceFault("not", 3, 1);
        sentenceFault("or gone", 0, 1);
        sentenceFault("gone or", 7, 1);
        sentenceFault("gone and", 8, 1);
        sentenceFault("gone and or gone", 9, 1);
        sentenceFault("(gone", 5, 1);
        sentenceFault("gone)", 4, 1);
        sentenceFault("gone gone", 5, 1);
        for (String what : new String[] {"long", "looks", "worth", "number"}) {
            int end = what.length();
            sentenceFault(what, end, 1);
            sentenceFault(what + " and gone", end + 1, 1);
            sentenceFault("(" + what + ")", end + 1, 1);
            sentenceFault(what + "<", end + 1, 1);
            sentenceFault(what + "< or gone", end + 2, 1);
            sentenceFault("(" + what + "<)", end + 2, 1);
            sentenceFault(what + " 5", end + 1, 1);
            sentenceFault(what + "<=5", end + 1, 1);
        }
        sentenceFault("of", 2, 1);
        sentenceFault("of and gone", 3, 1);
        sentenceFault("(of)", 3, 1);
    }

    /** "20 ONES" */
    private static void twentyOnes() {
        sentenceWell("gone" + " or gone".repeat(19), 20);
        sentenceFault("gone" + " or gone".repeat(20), 160, 4);
        sentenceWell("gone" + " and gone".repeat(19), 20);
        sentenceFault("gone" + " and gone".repeat(20), 180, 4);
        sentenceWell("not gone" + " or not gone".repeat(9), 20);
        sentenceFault("not gone" + " or not gone".repeat(10), 119 + 1, 4);
        sentenceWell("(gone)" + " or(gone)".repeat(9), 20);
        sentenceFault("(gone)" + " or(gone)".repeat(10), 90, 4);
        sentenceFault("gone or" + "(gone)or".repeat(9) + "(gone)", 80, 4);
        // each of them counts
        RungMoney x = Check.townOf("man a;ladder a s;ladder a ss;ladder a sss;");
        String nineteen = "gone or ".repeat(9) + "gone and gone or ".repeat(4) + "gone and gone";
        Check.due("twenty", Check.sentence(x, "long=2 or " + nineteen), 20);
        Check.row("the first", new int[] {x.said(-1), x.said(0)}, 1, 1);
        Check.due("twenty", Check.sentence(x, nineteen + " or long=3"), 20);
        Check.row("the last", new int[] {x.said(-1), x.said(0)}, 1, 2);
        Check.due("twenty", Check.sentence(x, "bears and ".repeat(19) + "long=1"), 20);
        Check.row("the last of all", new int[] {x.said(-1), x.said(0)}, 1, 0);
    }

    /** "8 within one another" */
    private static void eightWithin() {
        sentenceWell("not ".repeat(7) + "gone", 8);
        sentenceFault("not ".repeat(8) + "gone", 32, 4);
        sentenceWell("((((((( gone )))))))", 8);
        sentenceFault("(((((((( gone ))))))))", 9, 4);
        sentenceFault("not ".repeat(9) + "gone", 32, 4);
        sentenceFault("(((((((((gone)))))))))", 8, 4);
        sentenceWell("((((((( gone or of a and long<1 )))))))", 10);
        sentenceFault("((((((( gone or of a and not long<1 )))))))", 29, 4);
        // those that stand side by side are not within one another
        sentenceWell("(((((((gone)))))))or(((((((gone)))))))and gone", 17);
        RungMoney x = Check.townOf("man a;ladder a s;ladder a ss;");
        Check.sentence(x, "not ".repeat(7) + "long=1");
        Check.row("seven times not", new int[] {x.said(-1), x.said(0)}, 1, 1);
        Check.sentence(x, "(((((((long=1)))))))");
        Check.row("within brackets", new int[] {x.said(-1), x.said(0)}, 1, 0);
    }

    /** "COND: ALL { 'or' ALL }. ALL: ONE { 'and' ONE }. ONE: 'not' ONE": what binds what */
    private static void whatBinds() {
        RungMoney x = Check.townOf("man a;ladder a s;ladder a ss;ladder a sss;ladder a ssss;");
        String[] texts = {"long=1 or long=2 and long=3", "long=1 and long=2 or long=3", "(long=1 or long=2)and long=2",
            "not long=1 and long<3", "not(long=1 and long<3)", "long=1 or long=2 or long=3", "not not long=4",
            "not long=1 or long=1", "long>1 and long<4 and not long=2"};
        int[] bits = {1, 4, 2, 2, 14, 7, 8, 15, 4};
        for (int i = 0; i < texts.length; i++) {
            Check.sentence(x, texts[i]);
            int said = 0;
            for (int k = 0; k < Integer.bitCount(bits[i]); k++) {
                said |= 1 << x.said(k);
            }
            Check.row("said of '" + texts[i] + "'", new int[] {x.said(-1), said}, Integer.bitCount(bits[i]), bits[i]);
        }
    }

    /** "It is said of LADDERS (gone ones are 0 long)." */
    private static void goneAre0Long() {
        RungMoney x = small();
        x.burn(0);
        for (String what : new String[] {"gone", "long = 0", "looks < 1", "worth = 0", "long < 1"}) {
            Check.sentence(x, what);
            Check.row("said of '" + what + "'", new int[] {x.said(-1), x.said(0)}, 1, 0);
        }
        for (String what : new String[] {"false", "of a and not long > 0", "gone and bears"}) {
            Check.sentence(x, what);
            Check.due("said of '" + what + "'", x.said(-1), 0);
        }
    }

    /** "'bears' (it is there, all its rungs are sound) | 'false' (some are painted)" */
    private static void bearsIsThere() {
        RungMoney x = Check.townOf("man a;ladder a sr;ladder a sp;ladder a s;ladder a p;ladder a s;");
        x.burn(4);
        Check.sentence(x, "bears");
        Check.row("bears", new int[] {x.said(-1), x.said(0)}, 1, 2);
        Check.sentence(x, "false");
        Check.row("false", new int[] {x.said(-1), x.said(0), x.said(1)}, 2, 1, 3);
    }

    /** "SIGN NUMBER": each side of the number. */
    private static void anyNumber() {
        RungMoney x = Check.townOf("man a;ladder a ssp;ladder a sspp;ladder a sspps;");
        String[] texts = {"long < 4", "long = 4", "long > 4", "looks < 4", "looks = 4", "looks > 4", "worth < 2", "worth = 2",
            "worth > 2", "number < 1", "number = 1", "number > 1", "number > 999", "long < 999", "long < 0", "number = 0"};
        int[][] which = {{0}, {1}, {2}, {0}, {1}, {2}, {}, {0, 1}, {2}, {0}, {1}, {2}, {}, {0, 1, 2}, {}, {0}};
        for (int i = 0; i < texts.length; i++) {
            Check.sentence(x, texts[i]);
            Check.due("said(-1) of '" + texts[i] + "'", x.said(-1), which[i].length);
            for (int k = 0; k < which[i].length; k++) {
                Check.due("said(" + k + ") of '" + texts[i] + "'", x.said(k), which[i][k]);
            }
        }
    }

    // ---- FAULTS ----

    private static void faults() {
        theFirstAlong();
        ofOneTokenTheLeast();
        theEnd();
        theMostBytes();
        readWhole();
        noFaultAhead();
        numbersNotAsTold();
        atTheSecond();
        notTold();
        atTheFirstWord();
    }

    /** "FAULTS, the first along the text" */
    private static void theFirstAlong() {
        townFault("man abcdefgh;?", 4, 3);
        townFault("rot 13;?", 4, 2);
        townFault("man m?rot 13;", 5, 1);
        townFault(SIX + "man ?", 36, 4);
        townFault("man m;" + "ladder m s;".repeat(16) + "ladder ? x", 182, 4);
        townFault("rot 1;rot 13;", 6, 3);
        townFault(TWO + "debt m q 1;debt m q 251;", 30, 3);
        townFault(TWO + "debt m m 0;", 19, 3);
        townFault("ladder m s;man m;", 7, 3);
        ledgerFault("z climbs 16;?", 0, 3);
        ledgerFault("burns 16;z climbs 1;", 6, 2);
        ledgerFault("taxes;".repeat(40) + "burns ?", 240, 4);
        sentenceFault("of z and ?", 3, 3);
    }

    /** "of one TOKEN the least" */
    private static void ofOneTokenTheLeast() {
        String forty = "taxes;".repeat(40);
        ledgerFault(forty + "z climbs 1;", 240, 3);
        ledgerFault(forty + "?", 240, 1);
        ledgerFault(forty + "climbs 1;", 240, 1);
        ledgerFault(forty + "gone;", 240, 1);
        ledgerFault(forty + "a climbs 1;", 240, 4);
        sentenceFault("gone" + " or gone".repeat(19) + " or and", 160, 1);
        sentenceFault("not ".repeat(8) + "or", 32, 1);
        sentenceFault("((((((((?", 8, 1);
        townFault("man abcdefghijklm;", 4, 1);
        townFault("rot 1000;", 4, 1);
    }

    /** "the end: how many bytes there are" */
    private static void theEnd() {
        townFault("man", 3, 1);
        townFault("man \n ", 6, 1);
        townFault("man m", 5, 1);
        townFault("man m ", 6, 1);
        townFault("rot 1;man m;ladder m", 20, 1);
        townFault("man" + blanks(897), 900, 1);
        ledgerFault("taxes", 5, 1);
        ledgerFault("a pays 1 ", 9, 1);
        sentenceFault("gone or ", 8, 1);
        sentenceFault("", 0, 1);
    }

    /** "the most bytes told, if there are more" */
    private static void theMostBytes() {
        townFault("man" + blanks(898), 900, 1);
        townFault(blanks(900) + "?", 900, 1);
        townFault(blanks(920) + "?", 900, 1);
        townFault("man m;" + blanks(900) + "man m;", 900, 1);
        townFault("rot 1;".repeat(1) + blanks(894) + "rot 1;", 900, 1);
        ledgerFault(blanks(400) + "z", 400, 1);
        ledgerFault("taxes;".repeat(40) + blanks(160) + "taxes;", 400, 1);
        sentenceFault("gone" + blanks(196) + "gone", 200, 1);
        sentenceFault("(" + blanks(250) + "gone)", 200, 1);
    }

    /** "TOKENS that begin ahead of it are read whole" */
    private static void readWhole() {
        townFault(blanks(895) + "man abcdefgh;", 899, 3);
        townFault(blanks(895) + "man abcdefghijklm;", 899, 1);
        townFault(blanks(895) + "man abcdefg;", 900, 1);
        townFault(blanks(895) + "man m;", 900, 1);
        townFault(blanks(895) + "rot 12;", 900, 1);
        townFault(blanks(895) + "rot 13;", 899, 2);
        townFault(blanks(895) + "rot 1234;", 899, 1);
        townFault(blanks(899) + "mans", 899, 1);
        townFault(blanks(899) + "man m;", 900, 1);
        ledgerFault(blanks(399) + "taxes;", 400, 1);
        ledgerFault(blanks(399) + "zaxes;", 399, 3);
        ledgerFault(blanks(393) + "burns 16;", 399, 2);
        ledgerFault(blanks(393) + "burns 15;", 400, 1);
        sentenceFault(blanks(199) + "gone", 200, 1);
        sentenceFault(blanks(199) + "gonegone", 199, 1);
        sentenceFault(blanks(196) + "of zz", 199, 3);
    }

    /** "and no FAULT is ahead" */
    private static void noFaultAhead() {
        townFault("?" + blanks(939), 0, 1);
        townFault("rot 13;" + blanks(930), 4, 2);
        townFault(blanks(899) + ";;", 899, 1);
        ledgerFault("z climbs 1;" + blanks(400), 0, 3);
        ledgerFault("taxes;".repeat(70), 240, 4);
        sentenceFault("gone gone" + blanks(200), 5, 1);
        sentenceFault("gone" + " or gone".repeat(30), 160, 4);
    }

    /** "2 a NUMBER that is not as told (at it)" */
    private static void numbersNotAsTold() {
        townFault(TWO + "debt m q  0 ;", 22, 2);
        townFault("rot\n13;", 4, 2);
        ledgerFault("winter  100;", 8, 2);
        ledgerFault("saws 16 32;", 5, 2);
        ledgerFault("saws 15  32;", 9, 2);
    }

    /** "3 .. told twice .. two alike or told again (at the second), 'rot' told again (at it)" */
    private static void atTheSecond() {
        townFault("man m;man\n\nm;", 11, 3);
        townFault(TWO + "debt m  m 1;", 20, 3);
        townFault(TWO + "debt m q 1;debt  m  q 2;", 32, 3);
        townFault("rot 1; rot 1;", 7, 3);
    }

    /** "3 a NAME .. not told" */
    private static void notTold() {
        townFault("man m;ladder q s;", 13, 3);
        townFault("man m;debt q m 1;", 11, 3);
        townFault("man m;debt m q 1;", 13, 3);
        townFault("man m;ladder mm s;", 13, 3);
        ledgerFault("c climbs 1;", 0, 3);
        ledgerFault("a pays 1 c;", 9, 3);
        sentenceFault("of c", 3, 3);
        // names of the town ahead of it are not told any more
        RungMoney x = Check.townOf("man c;man d;");
        Check.town(x, "man a;");
        Check.due("of one of the town ahead", Check.sentence(x, "of d"), -4);
        Check.due("of one of this town", Check.sentence(x, "of a"), 1);
    }

    /** "4 one more than there may be of a sort .. (at the LINE's first WORD)" */
    private static void atTheFirstWord() {
        townFault(SIX + "\nman g;", 37, 4);
        townFault(SIX + "ladder a s;rot 1;man", 53, 4);
        townFault("man m;" + "ladder m s;".repeat(16) + "  ladder", 184, 4);
        townFault(debts(20) + " debt", debts(20).length() + 1, 4);
        ledgerFault("taxes;".repeat(40) + " a pays 1 b;", 241, 4);
    }
}
