/** Promises 18 to 23. */
final class MotionsTest {
    private static final int MOST = 9999999;

    public static void main(String[] args) {
        move();
        vote();
        heads();
        quota();
        close();
        closeBeyondTheLimits();
        motion();
        voted();
        lacking();
        Check.end();
    }

    private static void move() {
        CondoLedger x = new CondoLedger();
        int[][] wrong = {{-1, 0, 0}, {4, 0, 0}, {0, 1, 0}, {1, 3, 0}, {2, 9, 0}, {3, -1, 0}, {0, 0, 5}, {0, 0, -1}};
        for (int[] w : wrong) {
            Check.thrown("move out of range", Check.ILLEGAL_ARGUMENT, () -> x.move(w[0], w[1], w[2], 0));
        }
        Check.refused(x, "move without units", 1, () -> x.move(0, 0, 0, 0));
        x.addUnit(2, 1, 1, 0);
        Check.refused(x, "a house without units", 1, () -> x.move(1, 1, 0, 0));
        Check.refused(x, "an amount of 0", 2, () -> x.move(0, 0, 0, 0));
        Check.refused(x, "an amount of 10000000", 2, () -> x.move(2, 7, 0, 10000000));
        for (int i = 0; i < 8; i++) {
            Check.same("move", x.move(i % 4, i % 4 == 1 ? 2 : i % 4 == 2 ? 7 : 0, 0, MOST), i);
        }
        Check.refused(x, "the ninth motion", 4, () -> x.move(0, 0, 0, 1));
        Check.refused(x, "the ninth motion of 0", 2, () -> x.move(0, 0, 0, 0));
        Check.refused(x, "the ninth motion for nobody", 1, () -> x.move(1, 0, 0, 1));
        x.close(0);
        Check.refused(x, "the ninth motion behind a close", 4, () -> x.move(0, 0, 0, 1));
        Check.same("motions", x.account(4), 8);
        x.undo();
        Check.same("undo of move", x.undo(), 6);
        Check.same("motions behind undo", x.account(4), 7);
        x.vote(6, 0, 1);
        x.undo();
        x.undo();
        x.move(0, 0, 1, 5);
        Check.same("no vote of an undone motion", x.voted(6, 0), 0);
    }

    private static void vote() {
        CondoLedger x = Check.withShares(1, 1);
        Check.refused(x, "vote(0, 0, 1) without motions", 3, () -> x.vote(0, 0, 1));
        Check.refused(x, "vote(-1, 0, 1)", 3, () -> x.vote(-1, 0, 1));
        x.move(0, 0, 0, 1);
        x.move(0, 0, 0, 1);
        Check.thrown("vote(9, 2, 2)", Check.OUT_OF_BOUNDS, () -> x.vote(9, 2, 2));
        Check.thrown("vote(0, -1, 1)", Check.OUT_OF_BOUNDS, () -> x.vote(0, -1, 1));
        Check.thrown("vote(9, 0, 2)", Check.ILLEGAL_ARGUMENT, () -> x.vote(9, 0, 2));
        Check.thrown("vote(0, 0, -2)", Check.ILLEGAL_ARGUMENT, () -> x.vote(0, 0, -2));
        Check.refused(x, "vote(2, 0, 1)", 3, () -> x.vote(2, 0, 1));
        Check.same("vote for", x.vote(0, 1, 1), 0);
        Check.same("vote against", x.vote(0, 1, -1), 1);
        Check.same("vote taken back", x.vote(0, 1, 0), -1);
        Check.same("vote again", x.vote(0, 1, 1), 0);
        Check.same("another motion", x.voted(1, 1), 0);
        Check.same("another unit", x.voted(0, 0), 0);
        x.close(0);
        Check.refused(x, "vote on a closed motion", 3, () -> x.vote(0, 1, 1));
        x.undo();
        Check.same("undo of vote", x.undo(), 6);
        Check.same("vote behind undo", x.voted(0, 1), 0);
    }

    private static void heads() {
        CondoLedger x = Check.withShares(10, 20, 30, 40, 50);
        x.setOwner(2, 0);
        x.setOwner(4, 0);
        x.move(0, 0, 0, 100);
        x.vote(0, 2, -1);
        x.vote(0, 4, 1);
        tally("the lower one that votes is against", x, 0, 1, 50, 30);
        x.vote(0, 0, 1);
        tally("the lowest one is for", x, 1, 0, 60, 30);
        x.vote(0, 1, -1);
        tally("as many for as against", x, 1, 1, 60, 50);
        Check.same("cannot be carried", x.motion(0, 9), 0);
        x.vote(0, 3, 1);
        tally("more for", x, 2, 1, 100, 50);
        Check.same("can be carried", x.motion(0, 9), 1);
        x.setOwner(3, 1);
        tally("the owners of now", x, 1, 1, 100, 50);
        Check.same("cannot be carried now", x.motion(0, 9), 0);
        x.setOwner(3, 7);
        x.close(0);
        x.setOwner(3, 1);
        x.addUnit(0, 0, 5, 5);
        tally("behind the close, the owners of now", x, 1, 1, 100, 50);
        Check.same("was carried", x.motion(0, 9), 1);
    }

    private static void tally(String what, CondoLedger x, int headsFor, int headsAgainst, int sharesFor, int against) {
        Check.same(what + ": heads for", x.motion(0, 5), headsFor);
        Check.same(what + ": heads against", x.motion(0, 6), headsAgainst);
        Check.same(what + ": shares for", x.motion(0, 7), sharesFor);
        Check.same(what + ": shares against", x.motion(0, 8), against);
    }

    private static void quota() {
        CondoLedger x = Check.withShares(33, 33, 34);
        x.move(0, 0, 0, 100);
        x.set(1, 0);
        Check.same("no votes, quota 0", x.motion(0, 9), 0);
        x.vote(0, 0, 1);
        Check.same("one vote, quota 0", x.motion(0, 9), 1);
        x.set(1, 33);
        Check.same("exactly the quota", x.motion(0, 9), 1);
        x.set(1, 34);
        Check.same("below the quota", x.motion(0, 9), 0);
        x.vote(0, 1, 1);
        x.vote(0, 2, -1);
        x.set(1, 66);
        Check.same("exactly the quota of all shares", x.motion(0, 9), 1);
        x.set(1, 67);
        Check.same("not of the shares that vote", x.motion(0, 9), 0);
        x.vote(0, 2, 1);
        x.set(1, 100);
        Check.same("all for it", x.motion(0, 9), 1);
        CondoLedger y = Check.withShares(1, 2);
        y.move(0, 0, 0, 1);
        y.vote(0, 0, 1);
        y.set(1, 33);
        Check.same("a third is above 33", y.motion(0, 9), 1);
        y.set(1, 34);
        Check.same("a third is below 34", y.motion(0, 9), 0);
    }

    private static void close() {
        CondoLedger x = new CondoLedger();
        x.addUnit(0, 0, 10, 0);
        x.addUnit(0, 1, 20, 1);
        x.addUnit(1, 0, 30, 2);
        Check.refused(x, "close(0) without motions", 3, () -> x.close(0));
        x.move(1, 0, 3, 100);
        x.move(3, 0, 3, 100);
        x.vote(0, 2, 1);
        x.addUnit(0, 2, 5, 3);
        Check.same("lost below the quota", x.close(1), 0);
        Check.same("state", x.motion(1, 4), 2);
        Check.same("nothing charged", x.account(9), 0);
        x.set(1, 40);
        Check.same("carried", x.close(0), 1);
        Check.same("state", x.motion(0, 4), 1);
        // 28.57, 57.14 and 14.29: the unit that came later has its part.
        Check.same("charged", x.unit(0, 8), 29);
        Check.same("charged", x.unit(1, 8), 57);
        Check.same("charged", x.unit(2, 8), 0);
        Check.same("charged", x.unit(3, 8), 14);
        Check.same("balance", x.balance(3), 100);
        Check.same("no cost", x.account(3), 0);
        Check.refused(x, "closed ahead", 3, () -> x.close(0));
        Check.refused(x, "close(2)", 3, () -> x.close(2));
        Check.refused(x, "close(-1)", 3, () -> x.close(-1));
        Check.same("undo of close", x.undo(), 7);
        Check.same("open again", x.motion(0, 4), 0);
        Check.same("balance behind undo", x.balance(3), 0);
        Check.same("charged behind undo", x.account(9), 0);
    }

    private static void closeBeyondTheLimits() {
        CondoLedger x = Check.withShares(1, 1);
        for (int i = 0; i < 10; i++) {
            x.fund(0, MOST);
        }
        x.move(0, 0, 0, 10);
        x.move(0, 0, 0, 9);
        x.move(0, 0, 0, 1);
        Check.same("lost though beyond the limits", x.close(2), 0);
        x.vote(0, 0, 1);
        x.vote(1, 0, 1);
        Check.refused(x, "a fund above the greatest", 5, () -> x.close(0));
        Check.same("still open", x.motion(0, 4), 0);
        Check.same("the greatest fund", x.close(1), 1);
        Check.same("the greatest fund", x.balance(0), 99999999);
        CondoLedger y = Check.withShares(1, 1);
        for (int i = 0; i < 10; i++) {
            y.fund(0, 9999998);
            y.fund(1, 9999998);
        }
        y.move(0, 0, 2, 39);
        y.move(0, 0, 2, 38);
        y.vote(0, 0, 1);
        y.vote(1, 0, 1);
        Check.refused(y, "an account below the least", 5, () -> y.close(0));
        Check.same("the least account", y.close(1), 1);
        Check.same("the least account", y.unit(0, 6), -99999999);
    }

    private static void motion() {
        CondoLedger x = new CondoLedger();
        x.addUnit(1, 2, 10, 0);
        x.move(2, 5, 4, 77);
        x.move(1, 1, 3, 78);
        int[] due = {2, 5, 4, 77, 0, 0, 0, 0, 0, 0};
        for (int what = 0; what < due.length; what++) {
            Check.same("motion(0, " + what + ")", x.motion(0, what), due[what]);
        }
        Check.same("the next one", x.motion(1, 3), 78);
        Check.thrown("motion(2, 10)", Check.OUT_OF_BOUNDS, () -> x.motion(2, 10));
        Check.thrown("motion(-1, 0)", Check.OUT_OF_BOUNDS, () -> x.motion(-1, 0));
        Check.thrown("motion(0, 10)", Check.ILLEGAL_ARGUMENT, () -> x.motion(0, 10));
        Check.thrown("motion(0, -1)", Check.ILLEGAL_ARGUMENT, () -> x.motion(0, -1));
        x.addUnit(0, 0, 290, 1);
        x.vote(0, 0, 1);
        Check.same("lost", x.close(0), 0);
        x.set(1, 0);
        Check.same("shares for a lost one", x.motion(0, 7), 10);
        Check.same("a lost one that could be carried now", x.motion(0, 9), 0);
        x.vote(1, 0, 1);
        x.close(1);
        x.set(1, 100);
        Check.same("a carried one that could not be now", x.motion(1, 9), 1);
    }

    private static void voted() {
        CondoLedger x = Check.withShares(1, 1);
        x.move(0, 0, 0, 1);
        x.vote(0, 0, 1);
        x.vote(0, 1, -1);
        x.close(0);
        Check.same("voted(0, 0)", x.voted(0, 0), 1);
        Check.same("voted(0, 1)", x.voted(0, 1), -1);
        x.addUnit(0, 0, 1, 1);
        Check.same("voted(0, 2)", x.voted(0, 2), 0);
        Check.thrown("voted(1, 0)", Check.OUT_OF_BOUNDS, () -> x.voted(1, 0));
        Check.thrown("voted(-1, 0)", Check.OUT_OF_BOUNDS, () -> x.voted(-1, 0));
        Check.thrown("voted(0, 3)", Check.OUT_OF_BOUNDS, () -> x.voted(0, 3));
        Check.thrown("voted(0, -1)", Check.OUT_OF_BOUNDS, () -> x.voted(0, -1));
    }

    private static void lacking() {
        CondoLedger x = Check.withShares(10, 10, 10, 10, 60);
        Check.thrown("lacking(0)", Check.OUT_OF_BOUNDS, () -> x.lacking(0));
        x.move(0, 0, 0, 1);
        Check.thrown("lacking(-1)", Check.OUT_OF_BOUNDS, () -> x.lacking(-1));
        Check.same("all are lacking", x.lacking(0), 5);
        x.set(1, 20);
        Check.same("two are lacking", x.lacking(0), 2);
        x.vote(0, 0, -1);
        Check.same("one more head is lacking", x.lacking(0), 2);
        x.vote(0, 1, 1);
        Check.same("one of the next is lacking", x.lacking(0), 1);
        x.vote(0, 2, 1);
        Check.same("none is lacking", x.lacking(0), 0);
        Check.same("no vote comes of it", x.voted(0, 3), 0);
        x.vote(0, 0, 0);
        Check.same("none is lacking though the lowest is silent", x.lacking(0), 0);
        x.vote(0, 0, -1);
        x.set(1, 100);
        Check.thrown("one against", Check.NO_ELEMENT, () -> x.lacking(0));
        x.close(0);
        Check.thrown("a closed motion", Check.ILLEGAL_STATE, () -> x.lacking(0));
        ownersInLacking();
    }

    private static void ownersInLacking() {
        CondoLedger x = Check.withShares(10, 10, 10, 10);
        for (int unit = 0; unit < 4; unit++) {
            x.setOwner(unit, 0);
        }
        x.set(1, 0);
        x.move(0, 0, 0, 1);
        x.vote(0, 1, -1);
        Check.same("a lower unit turns its owner", x.lacking(0), 1);
        x.vote(0, 0, -1);
        Check.thrown("a higher unit does not", Check.NO_ELEMENT, () -> x.lacking(0));
        x.setOwner(3, 5);
        Check.thrown("as many for as against", Check.NO_ELEMENT, () -> x.lacking(0));
        x.setOwner(2, 6);
        Check.same("two other owners", x.lacking(0), 2);
    }
}
