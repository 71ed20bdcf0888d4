/** Promises 40 and 41: sentences. */
public final class SentenceTest {
    private static final String TOWN = "man a;man b;ladder a srp;ladder a ss;ladder b s;ladder b rr;ladder b ssspp;";

    public static void main(String[] args) {
        said();
        stays();
        faults();
        limits();
        Check.finish();
    }

    private static void say(String text, int ones, int... which) {
        RungMoney x = Check.townOf(TOWN);
        x.burn(2);
        Check.due("sentence() of " + text, Check.sentence(x, text), ones);
        Check.due("fault() of " + text, x.fault(), 0);
        Check.due("said(-1) of " + text, x.said(-1), which.length);
        for (int k = 0; k < which.length; k++) {
            Check.due("said(" + k + ") of " + text, x.said(k), which[k]);
        }
        Check.row("none such", new int[] {x.said(which.length), x.said(-2), x.said(Integer.MIN_VALUE), x.said(99)},
                -1, -1, -1, -1);
    }

    private static void said() {
        say("gone", 1, 2);
        say("bears", 1, 1);
        say("false", 1, 0, 4);
        say("of a", 1, 0, 1);
        say("of b", 1, 3, 4);
        say("long > 2", 1, 0, 4);
        say("long = 0", 1, 2);
        say("long<3", 1, 1, 2, 3);
        say("looks = 2", 1, 0, 1);
        say("looks < 1", 1, 2, 3);
        say("worth > 1", 1, 1, 4);
        say("worth = 3", 1, 4);
        say("number > 3", 1, 4);
        say("number = 2", 1, 2);
        say("number < 002", 1, 0, 1);
        say("number < 999", 1, 0, 1, 2, 3, 4);
        say("not gone", 2, 0, 1, 3, 4);
        say("not of b", 2, 0, 1, 2);
        say("not not gone", 3, 2);
        say("(gone)", 2, 2);
        say("gone or of a and false", 3, 0, 2);
        say("of a and false or gone", 3, 0, 2);
        say("(gone or of a) and false", 4, 0);
        say("not gone and false", 3, 0, 4);
        say("not (gone and false)", 4, 0, 1, 2, 3, 4);
        say("gone and gone and gone or false or bears", 5, 0, 1, 2, 4);
        say("\n number=0 or number=1 ", 2, 0, 1);
    }

    private static void stays() {
        RungMoney x = Check.townOf(TOWN);
        Check.row("without a sentence", new int[] {x.said(-1), x.said(0)}, -1, -1);
        Check.sentence(x, "gone");
        Check.due("said", x.said(-1), 0);
        Check.sentence(x, "of b");
        Check.due("said", x.said(-1), 3);
        Check.due("a fault", Check.sentence(x, "of c"), -4);
        Check.due("the sentence stays", x.said(-1), 3);
        x.burn(4);
        Check.due("it is said of what is so now", x.said(-1), 2);
        x.undo();
        Check.due("it is not undone", x.said(-1), 3);
        Check.due("a town with a fault", Check.town(x, "?"), -1);
        Check.due("it stays", x.said(-1), 3);
        Check.town(x, "");
        Check.due("a new town has none", x.said(-1), -1);
        Check.due("a sentence there", Check.sentence(x, "gone"), 1);
        Check.row("none such", new int[] {x.said(-1), x.said(0)}, 0, -1);
    }

    private static void fault(String text, int place, int kind) {
        RungMoney x = Check.townOf(TOWN);
        Check.due("sentence() of " + text, Check.sentence(x, text), -1 - place);
        Check.due("fault() of " + text, x.fault(), kind);
        Check.due("said", x.said(-1), -1);
    }

    private static void faults() {
        fault("", 0, 1);
        fault("  ", 2, 1);
        fault("and", 0, 1);
        fault("gone or", 7, 1);
        fault("gone gone", 5, 1);
        fault("gone;", 4, 1);
        fault("gone)", 4, 1);
        fault("(gone", 5, 1);
        fault("()", 1, 1);
        fault("not", 3, 1);
        fault("not and", 4, 1);
        fault("of", 2, 1);
        fault("of 1", 3, 1);
        fault("of gone", 3, 1);
        fault("of c", 3, 3);
        fault("of abcdefgh", 3, 3);
        fault("a", 0, 1);
        fault("5", 0, 1);
        fault("long 5", 5, 1);
        fault("long < a", 7, 1);
        fault("long < ", 7, 1);
        fault("long <= 5", 6, 1);
        fault("long ; 5", 5, 1);
        fault("long ( 5", 5, 1);
        fault("long < 1000", 7, 1);
        fault("long < 5 6", 9, 1);
        fault("gone . ", 5, 1);
        fault("man", 0, 1);
    }

    private static void limits() {
        RungMoney x = Check.townOf(TOWN);
        String twenty = "gone" + Check.repeat(" or gone", 19);
        Check.due("twenty", Check.sentence(x, twenty), 20);
        Check.due("twenty", Check.sentence(x, "gone" + Check.repeat(" and gone", 19)), 20);
        fault(twenty + " or gone", 160, 4);
        fault("gone" + Check.repeat(" and gone", 20), 180, 4);
        fault(twenty + " or x", 160, 1);
        fault(twenty + " or (", 160, 4);
        fault("gone" + Check.repeat(" or gone", 18) + " or not gone", 156, 4);
        fault("gone" + Check.repeat(" or gone", 18) + " or (gone)", 153, 4);
        Check.due("eight within", Check.sentence(x, Check.repeat("not ", 7) + "gone"), 8);
        Check.due("eight within", Check.sentence(x, "(((((((gone)))))))"), 8);
        fault(Check.repeat("not ", 8) + "gone", 32, 4);
        fault("((((((((gone))))))))", 8, 4);
        fault("(not (not (not (not (gone", 20, 4);
        fault("((((((((?", 8, 1);
        Check.due("side by side", Check.sentence(x, "((((((gone)and gone)))))or(((((((gone)))))))"), 16);
        String blanks = Check.repeat(" ", 196);
        Check.due("200 bytes", Check.sentence(x, blanks + "gone"), 1);
        fault(blanks + " gone", 200, 1);
        fault(blanks + "gone ", 200, 1);
        fault(Check.repeat(" ", 199) + "gonee", 199, 1);
        fault(Check.repeat(" ", 201), 200, 1);
        fault(blanks + "    gone", 200, 1);
    }
}
