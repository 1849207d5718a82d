/** Promises 24 to 26. */
final class TextsTest {
    public static void main(String[] args) {
        append();
        bookAll();
        kinds();
        faults();
        faultsInFullBuffers();
        noSignsOfEarlierTexts();
        bufferIsEmptied();
        allOrNone();
        undoOfTexts();
        Check.end();
    }

    private static void append() {
        CondoLedger x = Check.withShares(1);
        for (int i = 0; i < 60; i++) {
            x.append((char) (i * 1000));
        }
        Check.thrown("the 61st character", Check.ILLEGAL_STATE, () -> x.append('a'));
        Check.thrown("bookAll of it", Check.ILLEGAL_ARGUMENT, x::bookAll);
        // Six costs with 60 characters in all.
        Check.write(x, "a:0=99.99f;e:1=1.00f;m:2=3.00;h0:3=0.50;s00:4=77.00;a:0=2.00");
        Check.thrown("the 61st character", Check.ILLEGAL_STATE, () -> x.append(';'));
        Check.same("bookAll", x.bookAll(), 6);
        Check.same("costs", x.account(3), 6);
        Check.same("append is no change", x.undo(), 1);
    }

    private static void bookAll() {
        CondoLedger x = Check.withShares(1, 1);
        x.fund(4, 1000);
        Check.write(x, "a:4=7.00f;e:4=12345.67f;h0:1=0.05");
        Check.same("bookAll", x.bookAll(), 3);
        Check.same("faultPosition()", x.faultPosition(), -1);
        Check.same("the first one's fund", x.cost(0, 4), 700);
        Check.same("the second one's amount", x.cost(1, 3), 1234567);
        Check.same("the second one's fund has less", x.cost(1, 4), 300);
        Check.same("the third one's fund", x.cost(2, 4), 0);
        Check.same("the third one's part", x.part(2, 0), 3);
        Check.same("balance", x.balance(4), 0);
        Check.same("charged", x.account(9), 1000 + 1234267 + 5);
        Check.write(x, "a:0=99999.99");
        Check.same("the greatest amount", x.bookAll(), 1);
        Check.same("the greatest amount", x.cost(3, 3), 9999999);
        x.read(0, 5);
        Check.write(x, "m:0=1.00;m:0=1.00");
        x.bookAll();
        Check.same("meters are billed between", x.part(4, 0), 15 + 70);
        Check.same("meters are billed between", x.part(5, 0), 15 + 35);
    }

    private static void kinds() {
        CondoLedger x = new CondoLedger();
        x.addUnit(2, 1, 1, 0);
        x.addUnit(0, 2, 1, 0);
        Check.write(x, "a:0=1.00;e:1=1.00;m:2=1.00;h2:3=1.00;s21:4=1.00;s02:0=1.00");
        Check.same("bookAll", x.bookAll(), 6);
        int[][] due = {{0, 0, 0}, {3, 0, 1}, {4, 0, 2}, {1, 2, 3}, {2, 7, 4}, {2, 2, 0}};
        for (int cost = 0; cost < due.length; cost++) {
            for (int what = 0; what < 3; what++) {
                Check.same("cost(" + cost + ", " + what + ")", x.cost(cost, what), due[cost][what]);
            }
        }
        everyStair();
    }

    private static void everyStair() {
        for (int place = 0; place < 9; place++) {
            CondoLedger x = new CondoLedger();
            x.addUnit(place / 3, place % 3, 1, 0);
            String text = "s" + place / 3 + place % 3 + ":2=0.30;h" + place / 3 + ":1=0.40";
            Check.write(x, text);
            Check.same(text, x.bookAll(), 2);
            Check.same(text + ": its place", x.cost(0, 1), place);
            Check.same(text + ": its house", x.cost(1, 1), place / 3);
        }
    }

    private static void faults() {
        fault("", 0);
        fault("b", 0);
        fault("A:0=1.00", 0);
        fault(";", 0);
        fault("a", 1);
        fault("a0:0=1.00", 1);
        fault("h", 1);
        fault("h:", 1);
        fault("h3:0=1.00", 1);
        fault("h2", 2);
        fault("h22:0=1.00", 2);
        fault("s", 1);
        fault("s3", 1);
        fault("s2", 2);
        fault("s23:0=1.00", 2);
        fault("s2:0=1.00", 2);
        fault("s222", 3);
        fault("s:0=1.00", 1);
        fault("s0:0=1.00", 2);
        fault("a:=1.00", 2);
        fault("a:", 2);
        fault("a:5=1.00", 2);
        fault("a:4", 3);
        fault("a:44", 3);
        fault("a:4=", 4);
        fault("a:4=.50", 4);
        fault("a:4=-1.00", 4);
        fault("a:4=f", 4);
        fault("a:4=0", 5);
        fault("a:4=00.00", 5);
        fault("a:4=05.00", 5);
        fault("a:4=1", 5);
        fault("a:4=12345", 9);
        fault("a:4=123456.00", 9);
        fault("a:4=1,00", 5);
        fault("a:4=1.", 6);
        fault("a:4=1.x0", 6);
        fault("a:4=1.0", 7);
        fault("a:4=1.0f", 7);
        fault("a:4=1.000", 8);
        fault("a:4=1.00F", 8);
        fault("a:4=1.00ff", 9);
        fault("a:4=1.00;", 9);
        fault("a:4=1.00f;", 10);
        fault("a:4=1.00;;", 9);
        fault("a:4=1.00;x:4=1.00", 9);
        fault("a:4=1.00f;h9:0=1.00", 11);
        signsBesideTheDigits();
        fault(" a:4=1.00", 0);
        fault("a:4=1.00 ", 8);
        fault("a:4=1.00" + (char) 0, 8);
        fault("a:" + (char) 0x664 + "=1.00", 2);
        fault("a:4=1." + (char) ('0' + 256) + "0", 6);
        fault((char) ('a' + 65536 / 2) + ":4=1.00", 0);
        for (String text : new String[] {"a:0=0.01", "e:4=0.10f", "m:2=10.00", "h1:0=90000.99f", "s11:3=1.00"}) {
            CondoLedger x = new CondoLedger();
            x.addUnit(1, 1, 1, 0);
            Check.write(x, text);
            Check.same(text, x.bookAll(), 1);
            Check.same(text, x.faultPosition(), -1);
        }
    }

    /** "/" and ":" stand right below "0" and right above "9". */
    private static void signsBesideTheDigits() {
        fault("h/:0=1.00", 1);
        fault("s/0:0=1.00", 1);
        fault("s0/:0=1.00", 2);
        fault("a:/=1.00", 2);
        fault("a::=1.00", 2);
        fault("a:0=/.00", 4);
        fault("a:0=:.00", 4);
        fault("a:0=1/.00", 5);
        fault("a:0=1:.00", 5);
        fault("a:0=1./0", 6);
        fault("a:0=1.:0", 6);
        fault("a:0=1.0/", 7);
        fault("a:0=1.0:", 7);
    }

    private static void fault(String text, int position) {
        CondoLedger x = Check.withShares(1);
        Check.write(x, text);
        Check.same("ahead of " + text, x.faultPosition(), -1);
        Check.thrown(text, Check.ILLEGAL_ARGUMENT, x::bookAll);
        Check.same(text, x.faultPosition(), position);
        Check.same(text + ": costs", x.account(3), 0);
        Check.thrown(text + ": no reason", Check.NO_ELEMENT, x::refusal);
    }

    private static void faultsInFullBuffers() {
        String five = "a:0=1000.00f;a:0=1000.00;a:0=1000.00f;a:0=100.00;";
        fault(five + "a:0=12345.6", 60);
        fault(five + "s00:0=1.00;", 60);
        fault(five + "a:0=100.00x", 59);
        fault(five + "a:0=1.00f;a", 60);
        fault(five + "a:0=1.00;s0", 60);
        CondoLedger x = Check.withShares(1);
        Check.write(x, five + "a:0=100.00f");
        Check.same("a full buffer", x.bookAll(), 5);
        Check.same("its last cost", x.cost(4, 3), 10000);
    }

    private static void noSignsOfEarlierTexts() {
        CondoLedger x = Check.withShares(1);
        Check.write(x, "a:0=12.34f;a:1=5.00");
        Check.same("a text", x.bookAll(), 2);
        int[] faultsByLength = {0, 1, 2, 3, 4, 5, 6, 7, 8};
        for (int length : faultsByLength) {
            Check.write(x, "a:0=12.34f".substring(0, length));
            Check.thrown("a shorter text", Check.ILLEGAL_ARGUMENT, x::bookAll);
            Check.same("the end of a shorter text", x.faultPosition(), length);
        }
        x.fund(0, 2000);
        Check.write(x, "a:0=12.34");
        Check.same("a text without f", x.bookAll(), 1);
        Check.same("its fund pays nothing", x.balance(0), 2000);
    }

    private static void bufferIsEmptied() {
        CondoLedger x = Check.withShares(1);
        Check.write(x, "a:0=1.0");
        Check.thrown("too short", Check.ILLEGAL_ARGUMENT, x::bookAll);
        Check.same("its fault", x.faultPosition(), 7);
        x.undo();
        Check.same("the fault stays behind undo", x.faultPosition(), 7);
        Check.thrown("empty", Check.ILLEGAL_ARGUMENT, x::bookAll);
        Check.same("its fault", x.faultPosition(), 0);
        Check.write(x, "a:0=1.00");
        Check.refused(x, "no unit", 1, x::bookAll);
        Check.same("no fault", x.faultPosition(), -1);
        Check.thrown("empty behind a refused one", Check.ILLEGAL_ARGUMENT, x::bookAll);
        x.addUnit(0, 0, 1, 0);
        Check.write(x, "a:0=1.00");
        Check.same("bookAll", x.bookAll(), 1);
        Check.thrown("empty behind a success", Check.ILLEGAL_ARGUMENT, x::bookAll);
        Check.write(x, "a:0=");
        x.save();
        x.undo();
        x.restore();
        Check.write(x, "2.00");
        Check.same("the buffer stays behind undo and restore", x.bookAll(), 1);
        Check.same("its amount", x.cost(1, 3), 200);
    }

    private static void allOrNone() {
        CondoLedger x = Check.withShares(1, 2);
        x.fund(1, 500);
        x.read(0, 9);
        Check.write(x, "m:1=6.00f;h1:0=1.00;a:0=0.00");
        Check.refused(x, "no unit in the second", 1, x::bookAll);
        Check.same("costs", x.account(3), 0);
        Check.same("balance", x.balance(1), 500);
        Check.same("use", x.unit(0, 5), 9);
        Check.same("charged", x.account(9), 500);
        Check.same("what funds have paid", x.account(10), 0);
        Check.write(x, "a:0=0.00;h1:0=1.00");
        Check.refused(x, "an amount of 0", 2, x::bookAll);
        Check.write(x, "h1:0=0.00");
        Check.refused(x, "both reasons", 1, x::bookAll);
        for (int i = 0; i < 14; i++) {
            x.book(0, 0, 0, 9999999, false);
        }
        Check.write(x, "e:0=0.01;a:0=99999.99");
        Check.refused(x, "the second is beyond the limits", 5, x::bookAll);
        Check.write(x, "a:0=99999.99;a:0=0.00");
        Check.refused(x, "the first is beyond the limits", 5, x::bookAll);
        Check.write(x, "a:1=5.00f;a:1=99999.99f");
        Check.refused(x, "the fund is used up by the first", 5, x::bookAll);
        Check.same("costs", x.account(3), 14);
        Check.same("refused ones are no changes", x.undo(), 7);
    }

    private static void undoOfTexts() {
        CondoLedger x = Check.withShares(1);
        Check.write(x, "a:0=1.00;a:0=2.00;a:0=3.00");
        x.bookAll();
        Check.same("one change", x.undo(), 1);
        Check.same("costs", x.account(3), 0);
        Check.same("charged", x.account(9), 0);
        for (int i = 0; i < 19; i++) {
            x.book(0, 0, 0, i + 1, false);
        }
        Check.write(x, "a:0=1.00;a:0=2.00;a:0=3.00");
        Check.same("costs that go", x.bookAll(), 3);
        Check.same("the oldest", x.cost(0, 3), 3);
        Check.same("the newest", x.cost(19, 3), 300);
        x.undo();
        Check.same("the oldest is back", x.cost(0, 3), 1);
        Check.same("costs", x.account(3), 19);
    }
}
