/** Promises 27 to 31. */
final class StateTest {
    public static void main(String[] args) {
        account();
        share();
        undo();
        undoOfEachChange();
        saveAndRestore();
        refusedCallsAreNoChanges();
        fullLedger();
        Check.end();
    }

    private static void account() {
        CondoLedger x = Check.withShares(10, 20, 70);
        x.setOwner(2, 0);
        x.fund(0, 200);
        x.fund(4, 30);
        x.book(0, 0, 0, 100, true);
        x.book(0, 0, 1, 50, false);
        x.book(0, 0, 4, 40, true);
        x.pay(1, 55);
        x.move(0, 0, 0, 5);
        x.move(0, 0, 0, 6);
        x.move(0, 0, 0, 7);
        x.close(1);
        int charged = 200 + 30 + 50 + 10;
        int[] due = {3, 100, 2, 3, 3, 2, 55 - charged, 100, 55, charged, 130};
        for (int what = 0; what < due.length; what++) {
            Check.same("account(" + what + ")", x.account(what), due[what]);
        }
        Check.thrown("account(-1)", Check.ILLEGAL_ARGUMENT, () -> x.account(-1));
        Check.thrown("account(11)", Check.ILLEGAL_ARGUMENT, () -> x.account(11));
        for (int i = 0; i < 21; i++) {
            x.book(0, 0, 0, 10, true);
        }
        Check.same("funds paid for costs that went, too", x.account(10), 230);
    }

    private static void share() {
        CondoLedger x = new CondoLedger();
        Check.thrown("share(0)", Check.OUT_OF_BOUNDS, () -> x.share(0));
        x.addUnit(0, 0, 1, 0);
        Check.same("the only one", x.share(0), 1.0);
        x.addUnit(0, 0, 2, 0);
        x.addUnit(0, 0, 4, 0);
        Check.same("share(0)", x.share(0), 1.0 / 7.0);
        Check.same("share(2)", x.share(2), 4.0 / 7.0);
        Check.thrown("share(-1)", Check.OUT_OF_BOUNDS, () -> x.share(-1));
        Check.thrown("share(3)", Check.OUT_OF_BOUNDS, () -> x.share(3));
    }

    private static void undo() {
        CondoLedger x = new CondoLedger();
        Check.thrown("undo()", Check.ILLEGAL_STATE, x::undo);
        for (int i = 0; i < 12; i++) {
            x.addUnit(0, 0, i + 1, 0);
        }
        for (int left = 7; left >= 0; left--) {
            Check.same("undo()", x.undo(), left);
            Check.same("units", x.account(0), 5 + left - 1);
        }
        Check.thrown("the ninth undo()", Check.ILLEGAL_STATE, x::undo);
        x.addUnit(1, 1, 50, 5);
        Check.same("a change behind undo", x.unit(4, 2), 50);
        Check.same("its undo", x.undo(), 0);
        Check.same("units", x.account(0), 4);
        x.set(0, 30);
        Check.same("a change that leaves all as it was", x.undo(), 0);
        x.set(0, 1);
        x.set(0, 2);
        x.undo();
        x.set(0, 3);
        Check.same("undo in between", x.undo(), 1);
        Check.same("undo in between", x.set(0, 9), 1);
    }

    private static void undoOfEachChange() {
        CondoLedger x = Check.withShares(1, 2);
        x.fund(0, 50);
        x.move(0, 0, 1, 9);
        String before = picture(x);
        Runnable[] changes = {() -> x.addUnit(2, 2, 3, 4), () -> x.setOwner(0, 5), () -> x.set(1, 51),
            () -> x.read(0, 6), () -> x.pay(0, 7), () -> x.book(0, 0, 0, 80, true), () -> bookText(x),
            () -> x.fund(2, 11), () -> x.move(0, 0, 0, 12), () -> x.vote(0, 1, 1), () -> x.close(0)};
        for (int i = 0; i < changes.length; i++) {
            changes[i].run();
            boolean isQuota = i == 2;
            if (!isQuota && picture(x).equals(before)) {
                Check.report("change " + i + " leaves no mark");
            }
            int left = x.undo();
            Check.same("changes behind undo of change " + i, left, 4);
            Check.same("the ledger behind undo of change " + i, picture(x), before);
        }
        Check.same("the quota", x.set(1, 50), 50);
    }

    private static void bookText(CondoLedger x) {
        Check.write(x, "m:0=0.70f");
        x.bookAll();
    }

    /** With 12 units, 20 costs and 8 motions; each undo and restore must bring all of them back. */
    private static void fullLedger() {
        CondoLedger x = new CondoLedger();
        for (int unit = 0; unit < 12; unit++) {
            x.addUnit(unit / 6, unit % 3, 10 + unit, unit % 8);
        }
        for (int cost = 0; cost < 20; cost++) {
            x.book(cost % 5 < 3 ? 0 : cost % 5, 0, 0, 1000 + cost, false);
        }
        for (int motion = 0; motion < 8; motion++) {
            x.move(0, 0, motion % 5, 500 + motion);
        }
        for (int motion = 0; motion < 8; motion++) {
            x.vote(motion, motion + 4, motion % 2 == 0 ? 1 : -1);
        }
        x.read(11, 5);
        x.pay(11, 3);
        Check.same("the debtor of 12 units", x.debtor(), 11);
        Check.same("the shares of the other house", x.shares(1, -1), 16 + 17 + 18 + 19 + 20 + 21);
        Check.same("owned by two units", x.owned(3), x.unit(3, 6) + x.unit(11, 6));
        // 14 of 186 shares vote for it; units 0 to 3 and 5 to 7 bring it to 108, units up to 6 only to 91.
        Check.same("lacking of 12 units", x.lacking(0), 7);
        Check.thrown("lacking of 12 units", Check.NO_ELEMENT, () -> allAgainst(x));
        Check.same("the last one's part equally", x.wouldPay(3, 0, 12, 11), 1);
        Check.same("only the last one has use", x.wouldPay(4, 0, 100, 11), 70 + 3);
        String before = picture(x);
        x.save();
        x.vote(7, 11, 0);
        x.vote(3, 2, 1);
        x.set(1, 0);
        x.close(6);
        x.close(7);
        for (int left = 4; left >= 0; left--) {
            Check.same("undo", x.undo(), left);
        }
        Check.same("the ledger behind undo", picture(x), before);
        x.book(4, 0, 0, 99, false);
        x.close(0);
        x.close(7);
        x.pay(11, 7);
        x.restore();
        Check.same("the ledger behind restore", picture(x), before);
    }

    /** Behind 13 further calls, with all units against motion 1 but those that are silent. */
    private static void allAgainst(CondoLedger x) {
        x.save();
        for (int unit = 0; unit < 12; unit++) {
            x.vote(1, unit, unit < 11 ? -1 : 0);
        }
        try {
            x.lacking(1);
        } finally {
            x.restore();
        }
    }

    /** What the calls tell of the ledger, but for settings. */
    private static String picture(CondoLedger x) {
        StringBuilder told = new StringBuilder();
        for (int what = 0; what <= 10; what++) {
            told.append(x.account(what)).append(' ');
        }
        for (int unit = 0; unit < x.account(0); unit++) {
            for (int what = 0; what <= 8; what++) {
                told.append(x.unit(unit, what)).append(' ');
            }
        }
        for (int purpose = 0; purpose < 5; purpose++) {
            told.append(x.balance(purpose)).append(' ');
        }
        for (int cost = 0; cost < x.account(3); cost++) {
            for (int what = 0; what <= 5; what++) {
                told.append(x.cost(cost, what)).append(' ');
            }
            for (int unit = 0; unit < x.account(0); unit++) {
                told.append(x.part(cost, unit)).append(' ');
            }
        }
        for (int motion = 0; motion < x.account(4); motion++) {
            for (int what = 0; what <= 9; what++) {
                told.append(x.motion(motion, what)).append(' ');
            }
            for (int unit = 0; unit < x.account(0); unit++) {
                told.append(x.voted(motion, unit)).append(' ');
            }
        }
        return told.toString();
    }

    private static void saveAndRestore() {
        CondoLedger x = Check.withShares(1, 2);
        Check.thrown("restore()", Check.ILLEGAL_STATE, x::restore);
        x.set(0, 40);
        x.fund(0, 10);
        x.move(0, 0, 0, 5);
        x.vote(0, 1, 1);
        x.book(0, 0, 0, 4, true);
        String saved = picture(x);
        x.save();
        Check.same("save is no change", x.undo(), 6);
        x.undo();
        x.set(0, 41);
        x.addUnit(0, 0, 3, 3);
        x.restore();
        Check.same("restored", picture(x), saved);
        Check.same("the vote", x.voted(0, 1), 1);
        Check.same("the cost's part", x.part(0, 0), 0);
        Check.thrown("restore forgets the changes", Check.ILLEGAL_STATE, x::undo);
        Check.same("the setting", x.set(0, 1), 40);
        Check.same("a change behind restore", x.undo(), 0);
        x.close(0);
        x.restore();
        Check.same("restored again", picture(x), saved);
        x.pay(0, 1);
        String later = picture(x);
        x.save();
        x.pay(0, 2);
        x.restore();
        Check.same("the later snapshot", picture(x), later);
        CondoLedger y = new CondoLedger();
        y.save();
        y.addUnit(0, 0, 1, 0);
        y.restore();
        Check.same("an empty ledger", y.account(0), 0);
    }

    private static void refusedCallsAreNoChanges() {
        CondoLedger x = Check.withShares(1);
        x.move(0, 0, 0, 1);
        String before = picture(x);
        Check.refused(x, "pay", 2, () -> x.pay(0, 0));
        Check.refused(x, "book", 2, () -> x.book(0, 0, 0, 0, false));
        Check.refused(x, "fund", 2, () -> x.fund(0, 0));
        Check.refused(x, "move", 2, () -> x.move(0, 0, 0, 0));
        Check.refused(x, "vote", 3, () -> x.vote(1, 0, 0));
        Check.refused(x, "close", 3, () -> x.close(1));
        Check.write(x, "a:0=0.00");
        Check.refused(x, "bookAll", 2, x::bookAll);
        Check.thrown("set", Check.ILLEGAL_ARGUMENT, () -> x.set(0, 101));
        Check.thrown("read", Check.ILLEGAL_ARGUMENT, () -> x.read(0, -1));
        Check.same("unchanged", picture(x), before);
        Check.same("two changes", x.undo(), 1);
    }
}
