/** Promises 20, 42 and 43: acts undone, images. */
public final class UndoTest {
    private static final String TOWN = "man a;man b;ladder a sprs;ladder a rr;ladder b ss;debt a b 9;debt b a 4;rot 12;";

    public static void main(String[] args) {
        everyAct();
        oneByOne();
        whatIsNoAct();
        eightAtMost();
        images();
        Check.finish();
    }

    private static void undone(String what, RungMoney x, String before, boolean changes) {
        Check.due(what + " changed", !Check.allSo(x).equals(before), changes);
        Check.due("undo of " + what, x.undo(), 0);
        Check.due("all is as before " + what, Check.allSo(x).equals(before), true);
        Check.due("a further undo", x.undo(), -1);
    }

    private static void everyAct() {
        RungMoney x = Check.townOf(TOWN);
        String before = Check.allSo(x);
        x.pay(0, 0, 1);
        undone("pay", x, before, true);
        x.saw(0, 2);
        undone("saw", x, before, true);
        x.splice(0, 1);
        undone("splice", x, before, true);
        x.climb(0, 0);
        undone("climb", x, before, true);
        x.climb(1, 2);
        undone("a climb that changes nothing", x, before, false);
        x.burn(0);
        undone("burn", x, before, true);
        otherActs();
    }

    private static void otherActs() {
        RungMoney x = Check.townOf(TOWN);
        String before = Check.allSo(x);
        x.paint(1, 1);
        undone("paint", x, before, true);
        x.taxes();
        undone("taxes", x, before, true);
        x.winter(3);
        undone("winter", x, before, true);
        x.strike();
        undone("strike", x, before, true);
        x.drawn(3, 3);
        undone("drawn", x, before, true);
        Check.ledger(x, 1, "taxes;winter 3;burns 0;burns 0;taxes;");
        undone("ledger", x, before, true);
        Check.ledger(x, 1, "");
        undone("an empty ledger that was lived", x, before, false);
    }

    private static void oneByOne() {
        RungMoney x = Check.townOf(TOWN);
        // one of its own is seen, so that none is called too often
        RungMoney seen = Check.townOf(TOWN);
        String[] before = new String[8];
        for (int i = 0; i < 8; i++) {
            before[i] = Check.allSo(seen);
            Check.row("an act", new int[] {actAt(x, i), actAt(seen, i)}, 0, 0);
        }
        for (int i = 7; i >= 0; i--) {
            Check.due("undo", x.undo(), i);
            Check.due("all is as ahead of act " + i, Check.allSo(x).equals(before[i]), true);
        }
        otherOnesOneByOne();
    }

    private static void otherOnesOneByOne() {
        RungMoney x = Check.townOf(TOWN);
        String[] before = new String[6];
        for (int i = 0; i < 6; i++) {
            before[i] = Check.allSo(x);
            Check.due("an act", otherActAt(x, i), 0);
        }
        for (int i = 5; i >= 0; i--) {
            Check.due("undo", x.undo(), i);
            Check.due("all is as ahead of act " + i, Check.allSo(x).equals(before[i]), true);
        }
    }

    private static int actAt(RungMoney x, int i) {
        switch (i) {
            case 0:
                return x.saw(0, 3);
            case 1:
                return x.pay(0, 1, 1);
            case 2:
                return x.splice(1, 2);
            case 3:
                return x.climb(0, 3) - 1;
            case 4:
                return x.paint(1, 0);
            case 5:
                return x.winter(4);
            case 6:
                return x.taxes();
            default:
                return x.burn(1);
        }
    }

    private static int otherActAt(RungMoney x, int i) {
        switch (i) {
            case 0:
                return x.taxes();
            case 1:
                return x.strike() - 8;
            case 2:
                return x.climb(0, 1);
            case 3:
                return Check.ledger(x, 1, "paints 0 2;") + 1;
            case 4:
                return x.drawn(1, 5) - 1;
            default:
                return x.saw(0, 1);
        }
    }

    private static void whatIsNoAct() {
        RungMoney x = Check.townOf(TOWN);
        x.pay(0, 2, 1);
        x.pay(0, 0, 0);
        x.saw(0, 0);
        x.splice(0, 2);
        x.climb(0, 9);
        x.burn(9);
        x.paint(0, 0);
        x.drawn(0, 1);
        Check.ledger(x, 0, "taxes;");
        Check.ledger(x, 1, "taxes;?");
        x.ledger(3);
        Check.sentence(x, "gone");
        x.price(0, 1);
        x.fire(0, 1);
        x.odds(0, 0, 5, 1);
        x.image(0);
        Check.due("undo of none", x.undo(), -1);
        RungMoney y = Check.townOf("man a;man b;debt a b 1;");
        y.strike();
        y.taxes();
        Check.due("undo of none", y.undo(), -1);
    }

    private static void eightAtMost() {
        RungMoney x = Check.townOf("man a;ladder a ssssssssssss;");
        for (int i = 0; i < 11; i++) {
            x.taxes();
        }
        Check.due("a rung is left", x.ladder(0, 1), 1);
        for (int i = 7; i >= 0; i--) {
            // what is not done takes no place
            x.burn(5);
            x.saw(0, 0);
            Check.due("undo", x.undo(), i);
        }
        Check.due("eight are undone", x.ladder(0, 1), 9);
        Check.due("no more", x.undo(), -1);
        Check.due("no more", x.ladder(0, 1), 9);
        x.taxes();
        x.taxes();
        Check.row("undo", new int[] {x.undo(), x.ladder(0, 1), x.undo(), x.ladder(0, 1), x.undo()}, 1, 8, 0, 9, -1);
    }

    private static void images() {
        RungMoney x = Check.townOf(TOWN);
        Check.row("no such place", new int[] {bit(x.image(-1)), bit(x.image(2)), bit(x.restore(-1)), bit(x.restore(2))},
                0, 0, 0, 0);
        Check.due("nothing is kept there", x.restore(0), false);
        Check.sentence(x, "of b");
        x.taxes();
        String first = Check.allSo(x);
        Check.due("image", x.image(0), true);
        Check.due("nothing is kept there", x.restore(1), false);
        Check.due("undo behind an image", x.undo(), 0);
        x.taxes();
        x.price(0, 2);
        Check.ledger(x, 0, "taxes;");
        Check.due("an image of another town", Check.town(x, "man z;ladder z p;") == 2 && x.image(1), true);
        String second = Check.allSo(x);
        x.burn(0);
        x.feed(0, 0, 0, 0, 0);
        Check.due("restore", x.restore(0), true);
        Check.due("all is as kept", Check.allSo(x).equals(first), true);
        Check.row("the sentence, the tape, what was told", new int[] {x.said(-1), x.said(0), x.count(3), x.told(1),
            x.given()}, 1, 2, 20, 1, 1);
        Check.due("nothing can be undone", x.undo(), -1);
        x.end(0);
        Check.due("names are as kept", Check.sentence(x, "of a"), 1);
        Check.due("restore", x.restore(1), true);
        Check.due("all is as kept", Check.allSo(x).equals(second), true);
        Check.due("there was no sentence", x.said(-1), -1);
        Check.due("names are as kept", Check.sentence(x, "of a"), -4);
        x.burn(0);
        Check.due("restore", x.restore(0), true);
        Check.due("as often as wanted", Check.allSo(x).equals(first), true);
        Check.due("the sentence of the image", x.said(0), 2);
        Check.due("a new image there", x.burn(2) == 0 && x.image(0) && x.restore(0), true);
        Check.due("is the one that is kept", x.ladder(2, 0), -1);
    }

    private static int bit(boolean b) {
        return b ? 1 : 0;
    }
}
