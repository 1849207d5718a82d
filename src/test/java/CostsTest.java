/** Promises 10 to 17. */
final class CostsTest {
    private static final int MOST = 9999999;

    public static void main(String[] args) {
        pay();
        payBeyondTheLimits();
        bookDivides();
        bookByMeters();
        leastUseAndLeastRest();
        bookOnEveryPlace();
        bookWithItsFund();
        bookRefuses();
        bookBeyondTheLimits();
        cost();
        costsThatGo();
        part();
        wouldPay();
        fund();
        fundBeyondTheLimits();
        balance();
        refusal();
        Check.end();
    }

    private static void pay() {
        CondoLedger x = Check.withShares(1, 1);
        Check.same("pay", x.pay(1, 1), 1);
        Check.same("pay", x.pay(1, MOST), 10000000);
        Check.same("other account", x.unit(0, 6), 0);
        Check.thrown("pay(2, 0)", Check.OUT_OF_BOUNDS, () -> x.pay(2, 0));
        Check.thrown("pay(-1, 1)", Check.OUT_OF_BOUNDS, () -> x.pay(-1, 1));
        Check.refused(x, "pay(0, 0)", 2, () -> x.pay(0, 0));
        Check.refused(x, "pay(0, -1)", 2, () -> x.pay(0, -1));
        Check.refused(x, "pay(0, 10000000)", 2, () -> x.pay(0, 10000000));
        Check.refused(x, "pay(0, MAX)", 2, () -> x.pay(0, Integer.MAX_VALUE));
        Check.same("paid behind refused ones", x.account(8), 10000000);
        Check.same("undo of pay", x.undo(), 3);
        Check.same("account behind undo", x.unit(1, 6), 1);
    }

    private static void payBeyondTheLimits() {
        CondoLedger x = Check.withShares(1, 1, 1, 1, 1, 1, 1, 1, 1, 1, 1, 1);
        for (int unit = 0; unit < 10; unit++) {
            Check.payOften(x, unit, 10, MOST);
        }
        Check.same("ten full units", x.account(8), 999999900);
        Check.refused(x, "an account of 100000000", 5, () -> x.pay(0, 10));
        Check.same("an account of 99999999", x.pay(0, 9), 99999999);
        Check.same("payments up to 999999999", x.pay(10, 90), 90);
        Check.refused(x, "payments above 999999999", 5, () -> x.pay(11, 1));
        Check.refused(x, "a wrong amount ahead of it", 2, () -> x.pay(11, 0));
        Check.same("all payments", x.account(8), 999999999);
    }

    private static void bookDivides() {
        CondoLedger x = new CondoLedger();
        x.addUnit(0, 0, 100, 0);
        x.addUnit(0, 1, 200, 1);
        x.addUnit(1, 0, 33, 2);
        x.addUnit(1, 2, 100, 3);
        x.book(0, 0, 0, 1000, false);
        // 230.94, 461.89, 76.21, 230.94: two cents are left over.
        Check.parts("by shares", x, 0, 231, 462, 76, 231);
        x.book(1, 1, 1, 100, false);
        Check.parts("of a house", x, 1, 0, 0, 25, 75);
        x.book(2, 5, 2, 99, false);
        Check.parts("of a stair", x, 2, 0, 0, 0, 99);
        x.book(3, 0, 3, 11, false);
        Check.parts("equally, the lower ones first", x, 3, 3, 3, 3, 2);
        x.book(0, 0, 4, 1, false);
        Check.parts("one cent to the greatest remainder", x, 4, 0, 1, 0, 0);
        Check.same("charged", x.account(9), 1211);
        Check.same("account of unit 3", x.unit(3, 6), -231 - 75 - 99 - 2);
        Check.same("book is a change", x.undo(), 7);
        Check.same("charged behind undo", x.account(9), 1210);
        CondoLedger y = Check.withShares(300, 299, 298);
        y.book(0, 0, 0, MOST, false);
        Check.parts("the greatest amount", y, 0, 3344481, 3333333, 3322185);
    }

    private static void bookByMeters() {
        CondoLedger x = Check.withShares(1, 1, 2);
        x.book(4, 0, 0, 100, false);
        // The base of 30 gives 7.5, 7.5 and 15; the rest of 70 goes by shares, too: 17.5, 17.5 and 35.
        Check.parts("without use", x, 0, 8 + 18, 7 + 17, 15 + 35);
        x.read(0, 30);
        x.read(1, 10);
        x.book(4, 0, 0, 103, false);
        // The base is 30; the rest of 73 goes by use: 54.75 and 18.25.
        Check.parts("with use", x, 1, 8 + 55, 7 + 18, 15);
        Check.same("use behind it", x.unit(0, 5), 0);
        Check.same("units of a cost by meters", x.cost(1, 5), 3);
        x.read(2, 5);
        x.set(0, 100);
        x.book(4, 0, 0, 8, false);
        Check.parts("all of it is base", x, 2, 2, 2, 4);
        Check.same("a base rate of 100 bills, too", x.unit(2, 5), 0);
        x.read(2, 9);
        x.set(0, 0);
        x.book(4, 0, 0, 8, false);
        Check.parts("nothing is base", x, 3, 0, 0, 8);
        x.read(0, 99999);
        x.read(1, 99999);
        x.set(0, 33);
        x.book(4, 0, 0, MOST, false);
        // The base of 3299999 gives 824999.75 twice and 1649999.5; the rest goes by 99969 and 99989.
        Check.parts("the greatest uses", x, 4, 825000 + 3349665, 825000 + 3350335, 1649999);
        x.undo();
        Check.same("undo gives the use back", x.unit(0, 5), 99969);
        x.book(0, 0, 0, 5, false);
        Check.same("other kinds bill no meters", x.unit(0, 5), 99969);
    }

    private static void leastUseAndLeastRest() {
        CondoLedger x = Check.withShares(1, 9);
        x.fund(0, 9);
        x.read(0, 1);
        Check.same("its fund leaves a cent", x.book(4, 0, 0, 10, true), 9);
        Check.parts("a use of 1 gets the rest of a cent", x, 0, 1, 0);
        Check.same("a rest of a cent bills the meters", x.unit(0, 5), 0);
        x.read(1, 3);
        x.book(4, 0, 1, 1, false);
        Check.parts("a billed reading is no use", x, 1, 0, 1);
    }

    private static void bookOnEveryPlace() {
        for (int place = 0; place < 9; place++) {
            CondoLedger x = new CondoLedger();
            x.addUnit(place / 3, place % 3, 10, 0);
            x.addUnit((place / 3 + 1) % 3, place % 3, 10, 0);
            x.addUnit(place / 3, (place % 3 + 1) % 3, 10, 0);
            x.book(2, place, 0, 60, false);
            Check.parts("stair " + place, x, 0, 60, 0, 0);
            x.book(1, place / 3, 0, 60, false);
            Check.parts("house " + place / 3, x, 1, 30, 0, 30);
            Check.same("wouldPay on stair " + place, x.wouldPay(2, place, 7, 0), 7);
            Check.same("move for stair " + place, x.move(2, place, 0, 7), 0);
        }
    }

    private static void bookWithItsFund() {
        CondoLedger x = Check.withShares(1, 3);
        x.fund(2, 100);
        Check.same("without its fund", x.book(0, 0, 2, 40, false), 0);
        Check.same("balance behind it", x.balance(2), 100);
        Check.same("an empty fund", x.book(0, 0, 1, 40, true), 0);
        x.read(0, 7);
        Check.same("all of it", x.book(4, 0, 2, 60, true), 60);
        Check.parts("all of it", x, 2, 0, 0);
        Check.same("units that it concerned", x.cost(2, 5), 2);
        Check.same("no meter is billed", x.unit(0, 5), 7);
        Check.same("the balance exactly", x.balance(2), 40);
        Check.same("a part of it", x.book(0, 0, 2, 44, true), 40);
        Check.parts("a part of it", x, 3, 1, 3);
        Check.same("empty", x.balance(2), 0);
        Check.same("all that funds have paid", x.account(10), 100);
        Check.same("charged", x.account(9), 100 + 40 + 40 + 4);
        x.fund(2, 50);
        Check.same("the whole balance", x.book(0, 0, 2, 50, true), 50);
        x.undo();
        Check.same("balance behind undo", x.balance(2), 50);
        Check.same("what funds paid behind undo", x.account(10), 100);
        Check.same("a part of a cost by meters", x.book(4, 0, 2, 150, true), 50);
        // The base is 30 of the rest of 100.
        Check.parts("meters and fund", x, 4, 8 + 70, 22);
        Check.same("meters are billed", x.unit(0, 5), 0);
    }

    private static void bookRefuses() {
        CondoLedger x = new CondoLedger();
        int[][] wrong = {{-1, 0, 0}, {5, 0, 0}, {0, 1, 0}, {1, 3, 0}, {1, -1, 0}, {2, 9, 0}, {2, -1, 0}, {3, 1, 0},
            {4, -1, 0}, {0, 0, -1}, {0, 0, 5}};
        for (int[] w : wrong) {
            Check.thrown("book out of range", Check.ILLEGAL_ARGUMENT, () -> x.book(w[0], w[1], w[2], 0, false));
        }
        Check.thrown("nothing was refused", Check.NO_ELEMENT, x::refusal);
        Check.refused(x, "book without units", 1, () -> x.book(0, 0, 0, 0, false));
        Check.refused(x, "book by meters without units", 1, () -> x.book(4, 0, 0, 1, false));
        x.addUnit(1, 1, 5, 0);
        x.fund(0, 1000);
        Check.refused(x, "a house without units", 1, () -> x.book(1, 0, 0, 0, true));
        Check.refused(x, "a stair without units, with its fund", 1, () -> x.book(2, 3, 0, 10, true));
        Check.refused(x, "an amount of 0", 2, () -> x.book(0, 0, 0, 0, true));
        Check.refused(x, "an amount above the greatest", 2, () -> x.book(0, 0, 0, 10000000, false));
        Check.refused(x, "a negative amount", 2, () -> x.book(3, 0, 0, -5, false));
        Check.same("costs", x.account(3), 0);
        Check.same("balance", x.balance(0), 1000);
        Check.same("a stair with a unit", x.book(2, 4, 0, 10, true), 10);
        Check.same("changes", x.undo(), 2);
    }

    private static void bookBeyondTheLimits() {
        CondoLedger x = Check.withShares(1, 1);
        x.fund(0, 100);
        x.pay(0, 50);
        x.pay(1, 50);
        for (int i = 0; i < 20; i++) {
            x.book(3, 0, 1, 9999998, false);
        }
        Check.same("an account near the least", x.unit(0, 6), -99999980);
        Check.refused(x, "below the least", 5, () -> x.book(3, 0, 1, 40, false));
        Check.refused(x, "one unit below the least", 5, () -> x.book(3, 0, 1, 39, false));
        Check.same("exactly the least", x.book(3, 0, 1, 38, false), 0);
        Check.same("exactly the least", x.unit(1, 6), -99999999);
        Check.refused(x, "one cent more", 5, () -> x.book(3, 0, 1, 1, false));
        Check.refused(x, "one cent more than its fund", 5, () -> x.book(3, 0, 0, 101, true));
        Check.same("the fund covers it", x.book(3, 0, 0, 100, true), 100);
        Check.refused(x, "a wrong amount ahead of it", 2, () -> x.book(3, 0, 1, 0, false));
        CondoLedger y = Check.withShares(1, 1, 1, 1, 1, 1, 1, 1, 1, 1, 1, 1);
        for (int i = 0; i < 100; i++) {
            y.book(3, 0, 0, MOST, false);
        }
        y.book(3, 0, 0, 98, false);
        Check.same("charged", y.account(9), 999999998);
        Check.refused(y, "charged above the total", 5, () -> y.book(3, 0, 0, 2, false));
        Check.same("charged up to the total", y.book(3, 0, 0, 1, false), 0);
        Check.same("charged", y.account(9), 999999999);
        Check.refused(y, "fund above the total", 5, () -> y.fund(0, 1));
    }

    private static void cost() {
        CondoLedger x = new CondoLedger();
        x.addUnit(1, 2, 10, 0);
        x.addUnit(1, 1, 10, 0);
        x.addUnit(1, 2, 10, 0);
        x.fund(3, 7);
        x.book(2, 5, 3, 100, true);
        x.book(1, 1, 4, 9, false);
        int[] due = {2, 5, 3, 100, 7, 2};
        int[] dueNext = {1, 1, 4, 9, 0, 3};
        for (int what = 0; what < due.length; what++) {
            Check.same("cost(0, " + what + ")", x.cost(0, what), due[what]);
            Check.same("cost(1, " + what + ")", x.cost(1, what), dueNext[what]);
        }
        Check.thrown("cost(2, 6)", Check.OUT_OF_BOUNDS, () -> x.cost(2, 6));
        Check.thrown("cost(-1, 0)", Check.OUT_OF_BOUNDS, () -> x.cost(-1, 0));
        Check.thrown("cost(0, 6)", Check.ILLEGAL_ARGUMENT, () -> x.cost(0, 6));
        Check.thrown("cost(0, -1)", Check.ILLEGAL_ARGUMENT, () -> x.cost(0, -1));
        x.addUnit(1, 2, 10, 0);
        Check.same("units of a cost ahead of a unit", x.cost(0, 5), 2);
    }

    private static void costsThatGo() {
        CondoLedger x = Check.withShares(1, 2);
        for (int i = 0; i < 20; i++) {
            x.book(0, 0, i % 5, 3 * (i + 1), false);
        }
        Check.same("20 costs", x.account(3), 20);
        Check.same("the oldest", x.cost(0, 3), 3);
        x.book(3, 0, 1, 500, false);
        Check.same("still 20 costs", x.account(3), 20);
        Check.same("the oldest now", x.cost(0, 3), 6);
        Check.parts("the oldest now", x, 0, 2, 4);
        Check.same("the last but one", x.cost(18, 3), 60);
        Check.parts("the last but one", x, 18, 20, 40);
        Check.same("the newest", x.cost(19, 3), 500);
        Check.same("its kind", x.cost(19, 0), 3);
        Check.parts("the newest", x, 19, 250, 250);
        Check.thrown("cost(20, 0)", Check.OUT_OF_BOUNDS, () -> x.cost(20, 0));
        Check.same("what it charged stays", x.account(9), 630 + 500);
        x.undo();
        Check.same("undo brings the oldest back", x.cost(0, 3), 3);
        Check.parts("the oldest is back", x, 0, 1, 2);
    }

    private static void part() {
        CondoLedger x = new CondoLedger();
        x.addUnit(0, 0, 1, 0);
        x.addUnit(1, 0, 1, 0);
        x.book(1, 1, 0, 30, false);
        Check.parts("not concerned", x, 0, 0, 30);
        Check.thrown("part(0, 2)", Check.OUT_OF_BOUNDS, () -> x.part(0, 2));
        Check.thrown("part(1, 0)", Check.OUT_OF_BOUNDS, () -> x.part(1, 0));
        Check.thrown("part(-1, 0)", Check.OUT_OF_BOUNDS, () -> x.part(-1, 0));
        Check.thrown("part(0, -1)", Check.OUT_OF_BOUNDS, () -> x.part(0, -1));
        x.addUnit(1, 0, 1, 0);
        Check.same("a unit that came later", x.part(0, 2), 0);
        x.book(1, 1, 0, 30, false);
        x.undo();
        x.undo();
        x.book(0, 0, 0, 2, false);
        x.addUnit(1, 0, 1, 0);
        Check.same("nothing of undone ones", x.part(1, 2), 0);
    }

    private static void wouldPay() {
        CondoLedger x = new CondoLedger();
        Check.thrown("no unit", Check.OUT_OF_BOUNDS, () -> x.wouldPay(9, 9, 0, 0));
        x.addUnit(0, 0, 100, 0);
        x.addUnit(0, 1, 200, 1);
        x.addUnit(1, 0, 33, 2);
        x.fund(0, 90);
        Check.same("by shares", x.wouldPay(0, 0, 1000, 1), 601);
        Check.same("of a house", x.wouldPay(1, 0, 100, 0), 33);
        Check.same("not concerned", x.wouldPay(1, 0, 100, 2), 0);
        Check.same("of a stair", x.wouldPay(2, 3, 100, 2), 100);
        Check.same("equally", x.wouldPay(3, 0, 100, 0), 34);
        x.read(2, 10);
        Check.same("by meters", x.wouldPay(4, 0, 1000, 2), 30 + 700);
        Check.same("no meter is billed", x.unit(2, 5), 10);
        Check.same("nothing is charged", x.account(9), 90);
        Check.same("no fund pays", x.balance(0), 90);
        Check.same("the greatest amount", x.wouldPay(3, 0, MOST, 2), 3333333);
        Check.thrown("kind 5", Check.ILLEGAL_ARGUMENT, () -> x.wouldPay(5, 0, 1, 0));
        Check.thrown("kind -1", Check.ILLEGAL_ARGUMENT, () -> x.wouldPay(-1, 0, 1, 0));
        Check.thrown("place", Check.ILLEGAL_ARGUMENT, () -> x.wouldPay(3, 1, 1, 0));
        Check.thrown("place of a house", Check.ILLEGAL_ARGUMENT, () -> x.wouldPay(1, 3, 1, 0));
        Check.thrown("place of a stair", Check.ILLEGAL_ARGUMENT, () -> x.wouldPay(2, 9, 1, 0));
        Check.thrown("amount 0, house without units", Check.ILLEGAL_ARGUMENT, () -> x.wouldPay(1, 2, 0, 0));
        Check.thrown("amount 10000000", Check.ILLEGAL_ARGUMENT, () -> x.wouldPay(0, 0, 10000000, 0));
        Check.thrown("a house without units", Check.NO_ELEMENT, () -> x.wouldPay(1, 2, 1, 0));
        Check.thrown("a stair without units", Check.NO_ELEMENT, () -> x.wouldPay(2, 2, 1, 0));
        Check.thrown("unit 3", Check.OUT_OF_BOUNDS, () -> x.wouldPay(5, 0, 1, 3));
        Check.thrown("nothing was refused", Check.NO_ELEMENT, x::refusal);
        Check.same("no change", x.undo(), 4);
    }

    private static void fund() {
        CondoLedger x = new CondoLedger();
        Check.thrown("purpose 5", Check.ILLEGAL_ARGUMENT, () -> x.fund(5, 0));
        Check.thrown("purpose -1", Check.ILLEGAL_ARGUMENT, () -> x.fund(-1, 1));
        Check.refused(x, "fund without units", 1, () -> x.fund(0, 0));
        x.addUnit(0, 0, 1, 0);
        x.addUnit(1, 0, 2, 0);
        Check.refused(x, "fund of 0", 2, () -> x.fund(0, 0));
        Check.refused(x, "fund of 10000000", 2, () -> x.fund(0, 10000000));
        Check.same("fund", x.fund(4, 100), 100);
        Check.same("fund", x.fund(4, 1), 101);
        Check.same("fund", x.fund(0, 1), 1);
        Check.same("charged by shares", x.unit(0, 8), 33);
        Check.same("charged by shares", x.unit(1, 8), 69);
        Check.same("no cost", x.account(3), 0);
        Check.same("undo of fund", x.undo(), 4);
        Check.same("balance behind undo", x.balance(0), 0);
        Check.same("charged behind undo", x.account(9), 101);
    }

    private static void fundBeyondTheLimits() {
        CondoLedger x = Check.withShares(1, 1, 1);
        for (int i = 0; i < 10; i++) {
            x.fund(1, MOST);
        }
        Check.same("the greatest balance", x.fund(1, 9), 99999999);
        Check.refused(x, "a balance above it", 5, () -> x.fund(1, 1));
        Check.same("another fund", x.fund(2, 1), 1);
        CondoLedger y = Check.withShares(1);
        for (int i = 0; i < 10; i++) {
            y.fund(i % 2, MOST);
        }
        Check.same("an account of the least", y.fund(2, 9), 9);
        Check.refused(y, "an account below the least", 5, () -> y.fund(3, 1));
        Check.same("account", y.unit(0, 6), -99999999);
    }

    private static void balance() {
        CondoLedger x = Check.withShares(1);
        x.fund(3, 12);
        Check.same("balance(3)", x.balance(3), 12);
        Check.same("balance(4)", x.balance(4), 0);
        Check.thrown("balance(5)", Check.ILLEGAL_ARGUMENT, () -> x.balance(5));
        Check.thrown("balance(-1)", Check.ILLEGAL_ARGUMENT, () -> x.balance(-1));
    }

    private static void refusal() {
        CondoLedger x = new CondoLedger();
        Check.thrown("refusal()", Check.NO_ELEMENT, x::refusal);
        Check.refused(x, "vote on no motion", 1, () -> x.book(0, 0, 0, 1, false));
        x.save();
        x.addUnit(0, 0, 1, 0);
        Check.refused(x, "pay 0", 2, () -> x.pay(0, 0));
        Check.thrown("another exception", Check.ILLEGAL_ARGUMENT, () -> x.fund(9, 1));
        x.pay(0, 1);
        Check.same("kept behind a success", x.refusal(), 2);
        x.undo();
        Check.same("kept behind undo", x.refusal(), 2);
        x.restore();
        Check.same("kept behind restore", x.refusal(), 2);
        Check.refused(x, "close", 3, () -> x.close(0));
    }
}
