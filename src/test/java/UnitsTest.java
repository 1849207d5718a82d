/** Promises 1 to 9. */
final class UnitsTest {
    public static void main(String[] args) {
        newObject();
        addUnit();
        setOwner();
        set();
        read();
        unit();
        owned();
        debtor();
        shares();
        Check.end();
    }

    private static void newObject() {
        CondoLedger x = new CondoLedger();
        for (int what = 0; what <= 10; what++) {
            Check.same("new: account(" + what + ")", x.account(what), 0);
        }
        for (int purpose = 0; purpose < 5; purpose++) {
            Check.same("new: balance(" + purpose + ")", x.balance(purpose), 0);
        }
        Check.same("new: faultPosition()", x.faultPosition(), -1);
        Check.thrown("new: refusal()", Check.NO_ELEMENT, x::refusal);
        Check.thrown("new: undo()", Check.ILLEGAL_STATE, x::undo);
        Check.thrown("new: restore()", Check.ILLEGAL_STATE, x::restore);
        Check.same("new: base rate", x.set(0, 5), 30);
        Check.same("new: quota", x.set(1, 6), 50);
    }

    private static void addUnit() {
        CondoLedger x = new CondoLedger();
        int[][] wrong = {{-1, 0, 1, 0}, {3, 0, 1, 0}, {0, -1, 1, 0}, {0, 3, 1, 0}, {0, 0, 0, 0}, {0, 0, 301, 0},
            {0, 0, 1, -1}, {0, 0, 1, 8}, {Integer.MIN_VALUE, 0, 1, 0}, {0, 0, Integer.MAX_VALUE, 0}};
        for (int[] w : wrong) {
            Check.thrown("addUnit out of range", Check.ILLEGAL_ARGUMENT, () -> x.addUnit(w[0], w[1], w[2], w[3]));
        }
        Check.same("units behind wrong ones", x.account(0), 0);
        Check.same("addUnit", x.addUnit(0, 0, 1, 0), 0);
        Check.same("addUnit", x.addUnit(2, 2, 300, 7), 1);
        for (int i = 2; i < 12; i++) {
            Check.same("addUnit", x.addUnit(1, 0, 10, 3), i);
        }
        Check.thrown("13th unit", Check.ILLEGAL_STATE, () -> x.addUnit(0, 0, 1, 0));
        Check.thrown("13th unit, out of range", Check.ILLEGAL_ARGUMENT, () -> x.addUnit(0, 0, 0, 0));
        Check.same("units", x.account(0), 12);
        Check.same("addUnit is a change", x.undo(), 7);
        Check.same("addUnit behind undo", x.addUnit(0, 1, 2, 3), 11);
    }

    private static void setOwner() {
        CondoLedger x = Check.withShares(10, 20);
        Check.same("setOwner", x.setOwner(1, 7), 1);
        Check.same("setOwner", x.setOwner(1, 0), 7);
        Check.same("owner", x.unit(1, 3), 0);
        Check.same("other owner", x.unit(0, 3), 0);
        Check.thrown("setOwner(-1, 0)", Check.OUT_OF_BOUNDS, () -> x.setOwner(-1, 0));
        Check.thrown("setOwner(2, 8)", Check.OUT_OF_BOUNDS, () -> x.setOwner(2, 8));
        Check.thrown("setOwner(1, 8)", Check.ILLEGAL_ARGUMENT, () -> x.setOwner(1, 8));
        Check.thrown("setOwner(1, -1)", Check.ILLEGAL_ARGUMENT, () -> x.setOwner(1, -1));
        Check.same("setOwner is a change", x.undo(), 3);
        Check.same("owner behind undo", x.unit(1, 3), 7);
    }

    private static void set() {
        CondoLedger x = new CondoLedger();
        Check.same("set(0, 0)", x.set(0, 0), 30);
        Check.same("set(0, 100)", x.set(0, 100), 0);
        Check.same("set(1, 100)", x.set(1, 100), 50);
        Check.same("set(1, 0)", x.set(1, 0), 100);
        Check.thrown("set(2, 0)", Check.OUT_OF_BOUNDS, () -> x.set(2, 0));
        Check.thrown("set(-1, 101)", Check.OUT_OF_BOUNDS, () -> x.set(-1, 101));
        Check.thrown("set(0, 101)", Check.ILLEGAL_ARGUMENT, () -> x.set(0, 101));
        Check.thrown("set(1, -1)", Check.ILLEGAL_ARGUMENT, () -> x.set(1, -1));
        Check.same("undo of set", x.undo(), 3);
        Check.same("value behind undo", x.set(1, 7), 100);
    }

    private static void read() {
        CondoLedger x = Check.withShares(1, 1);
        Check.same("read", x.read(0, 100), 100);
        Check.same("read of the same", x.read(0, 100), 100);
        Check.thrown("read less", Check.ILLEGAL_ARGUMENT, () -> x.read(0, 99));
        Check.thrown("read too much", Check.ILLEGAL_ARGUMENT, () -> x.read(0, 100000));
        Check.thrown("read below 0", Check.ILLEGAL_ARGUMENT, () -> x.read(1, -1));
        Check.thrown("read of no unit", Check.OUT_OF_BOUNDS, () -> x.read(2, -1));
        Check.thrown("read of unit -1", Check.OUT_OF_BOUNDS, () -> x.read(-1, 5));
        x.book(4, 0, 0, 100, false);
        Check.same("use behind a bill", x.unit(0, 5), 0);
        Check.same("reading behind a bill", x.unit(0, 4), 100);
        Check.same("read behind a bill", x.read(0, 99999), 99899);
        Check.same("undo of read", x.undo(), 5);
        Check.same("reading behind undo", x.unit(0, 4), 100);
    }

    private static void unit() {
        CondoLedger x = new CondoLedger();
        x.addUnit(2, 1, 250, 6);
        x.read(0, 50);
        x.pay(0, 500);
        x.book(0, 0, 0, 700, false);
        int[] due = {2, 1, 250, 6, 50, 50, -200, 500, 700};
        for (int what = 0; what < due.length; what++) {
            Check.same("unit(0, " + what + ")", x.unit(0, what), due[what]);
        }
        Check.thrown("unit(0, -1)", Check.ILLEGAL_ARGUMENT, () -> x.unit(0, -1));
        Check.thrown("unit(0, 9)", Check.ILLEGAL_ARGUMENT, () -> x.unit(0, 9));
        Check.thrown("unit(1, 9)", Check.OUT_OF_BOUNDS, () -> x.unit(1, 9));
        Check.thrown("unit(-1, 0)", Check.OUT_OF_BOUNDS, () -> x.unit(-1, 0));
    }

    private static void owned() {
        CondoLedger x = Check.withShares(1, 1, 1);
        x.setOwner(2, 0);
        x.pay(0, 10);
        x.pay(1, 20);
        x.pay(2, 40);
        x.book(3, 0, 0, 300, false);
        Check.same("owned(0)", x.owned(0), -150);
        Check.same("owned(1)", x.owned(1), -80);
        Check.same("owned(7)", x.owned(7), 0);
        Check.thrown("owned(-1)", Check.ILLEGAL_ARGUMENT, () -> x.owned(-1));
        Check.thrown("owned(8)", Check.ILLEGAL_ARGUMENT, () -> x.owned(8));
    }

    private static void debtor() {
        CondoLedger x = new CondoLedger();
        Check.thrown("debtor()", Check.NO_ELEMENT, x::debtor);
        x.addUnit(0, 0, 1, 0);
        x.addUnit(0, 1, 1, 0);
        x.addUnit(0, 1, 1, 0);
        Check.same("debtor of the same accounts", x.debtor(), 0);
        x.book(2, 1, 0, 10, false);
        Check.same("debtor of two", x.debtor(), 1);
        x.pay(1, 1);
        Check.same("debtor, the last", x.debtor(), 2);
    }

    private static void shares() {
        CondoLedger x = new CondoLedger();
        x.addUnit(0, 0, 1, 0);
        x.addUnit(0, 2, 20, 0);
        x.addUnit(1, 2, 300, 0);
        x.addUnit(0, 2, 7, 0);
        Check.same("shares(0, -1)", x.shares(0, -1), 28);
        Check.same("shares(0, 2)", x.shares(0, 2), 27);
        Check.same("shares(0, 1)", x.shares(0, 1), 0);
        Check.same("shares(1, 2)", x.shares(1, 2), 300);
        Check.same("shares(2, -1)", x.shares(2, -1), 0);
        Check.thrown("shares(3, -1)", Check.ILLEGAL_ARGUMENT, () -> x.shares(3, -1));
        Check.thrown("shares(-1, -1)", Check.ILLEGAL_ARGUMENT, () -> x.shares(-1, -1));
        Check.thrown("shares(0, 3)", Check.ILLEGAL_ARGUMENT, () -> x.shares(0, 3));
        Check.thrown("shares(0, -2)", Check.ILLEGAL_ARGUMENT, () -> x.shares(0, -2));
    }
}
