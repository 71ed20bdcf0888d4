/** Promises 1, 2, 3 and the tape's part of 44. */
public final class TapeTest {
    public static void main(String[] args) {
        anEmptyObject();
        feeding();
        ending();
        emptiedByReading();
        Check.finish();
    }

    private static void anEmptyObject() {
        RungMoney x = new RungMoney();
        Check.due("NONE", RungMoney.NONE, -1);
        Check.row("count of a new object", new int[] {x.count(0), x.count(1), x.count(2), x.count(3)}, 0, 0, 1, 0);
        Check.row("count of another what", new int[] {x.count(-1), x.count(4)}, -1, -1);
        for (int what = 0; what < 8; what++) {
            Check.due("now of a new object", x.now(what), 0);
        }
        Check.row("what was told ahead of any", new int[] {x.given(), x.cut(), x.wood(), x.told(0), x.told(3)},
                -1, -1, -1, -1, -1);
        Check.due("fault ahead of any", x.fault(), 0);
        Check.due("said without a sentence", x.said(-1), -1);
        Check.due("undo ahead of any act", x.undo(), -1);
        Check.due("restore without an image", x.restore(0), false);
    }

    private static void feeding() {
        RungMoney x = new RungMoney();
        for (int i = 1; i <= 47; i++) {
            Check.due("feed", x.feed(0, 0, 0, 0, 0), 20 * i);
        }
        Check.due("a feed beyond 940", x.feed(0, 0, 0, 0, 0), -1);
        Check.due("count of a full tape", x.count(3), 940);
        Check.due("end", x.end(921), true);
        Check.due("a feed to 941", x.feed(0, 0, 0, 0, 0), -1);
        Check.due("count behind it", x.count(3), 921);
        Check.due("end", x.end(920), true);
        Check.due("a feed to 940", x.feed(0, 0, 0, 0, 0), 940);

        // the highest byte of a number comes first, all bits of it count
        RungMoney y = Check.townOf("man a;man b;ladder a s;ladder b s;");
        y.feed(0x00010000, 0, 0, 0, 0);
        y.end(1);
        Check.due("the first byte", y.forgers(), 1);
        y.feed(0x01000000, 0, 0, 0, 0);
        y.end(1);
        Check.due("the first byte", y.forgers(), 2);
        y.feed(0, 0, 0, 0, 1);
        y.end(16);
        Check.due("the first sixteen bytes", y.forgers(), 1);
        y.feed(0x80000000, 0, 0, 0, 0);
        y.end(1);
        Check.due("the byte 128", y.forgers(), -1);
    }

    private static void ending() {
        RungMoney x = new RungMoney();
        Check.due("end of none", x.end(0), true);
        Check.due("end above what there is", x.end(1), false);
        Check.due("end below 0", x.end(-1), false);
        x.feed(1, 2, 3, 4, 5);
        Check.due("end above what there is", x.end(21), false);
        Check.due("end of all", x.end(20), true);
        Check.due("end of some", x.end(7), true);
        Check.due("count", x.count(3), 7);
        Check.due("end of bytes that went", x.end(8), false);
        Check.due("end least", x.end(Integer.MIN_VALUE), false);
        Check.due("feed behind seven", x.feed(1, 2, 3, 4, 5), 27);
    }

    private static void emptiedByReading() {
        RungMoney x = new RungMoney();
        Check.put(x, "man");
        x.town();
        Check.due("the tape behind a town with a fault", x.count(3), 0);
        Check.put(x, "man m;");
        x.town();
        Check.due("the tape behind a town", x.count(3), 0);
        Check.put(x, "?");
        x.sentence();
        Check.due("the tape behind a sentence with a fault", x.count(3), 0);
        Check.put(x, "gone");
        x.sentence();
        Check.due("the tape behind a sentence", x.count(3), 0);
        Check.put(x, "?");
        x.ledger(1);
        Check.due("the tape behind a ledger with a fault", x.count(3), 0);
        Check.put(x, "taxes;");
        Check.due("a ledger that is not read", x.ledger(2), -1000);
        Check.due("the tape behind it", x.count(3), 6);
        x.ledger(0);
        Check.due("the tape behind a ledger", x.count(3), 0);
        Check.due("forgers of no such ladder", Check.forgers(x, 3), -1);
        Check.due("the tape behind it", x.count(3), 0);
        Check.put(x, Check.repeat("a", 17));
        x.forgers();
        Check.due("the tape behind forgers by too many", x.count(3), 0);
    }
}
