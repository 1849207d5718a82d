/** Edges of the promises 27 to 31. */
final class StateEdges extends Edges {

    /** "if what is not from 0 to 10" */
    static void promise27_account_what0And10AreTold_whatMinus1And11AreNot() {
        int[] due = {5, 500, 4, 3, 3, 1, 1250 - 2599, 1760, 1250, 2599, 40};
        for (int what = 0; what <= 10; what++) {
            BUSY.tells(due[what], "account", what);
        }
        BUSY.onlyTells(5, "account", 0).onlyTells(40, "account", 10);
        BUSY.fails(IAE, "account", -1).fails(IAE, "account", 11);
        BUSY.fails(IAE, "account", LEAST_INT).fails(IAE, "account", GREATEST_INT);
    }

    static void promise27_account_allIs0OfANewLedger() {
        for (int what = 0; what <= 10; what++) {
            EMPTY.tells(0, "account", what);
        }
        EMPTY.fails(IAE, "account", 11).fails(IAE, "account", -1);
    }

    static void promise27_account_allIsFull() {
        FULL.tells(12, "account", 0).tells(186, "account", 1).tells(8, "account", 2).tells(20, "account", 3)
                .tells(8, "account", 4).tells(6, "account", 5);
    }

    /** "2 for the owners of units": each owner counts once, and none without a unit */
    static void promise27_account_ownersOfSeveralUnitsCountOnce_ownersWithoutUnitsDoNot() {
        Scene two = withShares(1, 1).tells(2, "account", 2);
        two.then("setOwner", 1, 0).tells(1, "account", 2).then("setOwner", 0, 7).tells(2, "account", 2)
                .then("setOwner", 1, 7).tells(1, "account", 2);
        withEqualUnits(8).tells(8, "account", 2);
    }

    /** "5 for those that are open" */
    static void promise27_account_carriedAndLostMotionsAreNotOpen() {
        BUSY.tells(3, "account", 4).tells(1, "account", 5).then("close", 2).tells(3, "account", 4).tells(0, "account", 5);
        withShares(1).times(8, "move", 0, 0, 0, 1).tells(8, "account", 5);
    }

    /** "8 for all that units have paid, 9 for all that they have been charged": at their limits */
    static void promise27_account_theGreatestTotals() {
        ALMOST_ALL_PAID.then("pay", 11, 99).tells(999999999, "account", 8).tells(999999999, "account", 6);
        ALMOST_ALL_CHARGED.then("book", 3, 0, 0, 99, false).tells(999999999, "account", 9)
                .tells(-999999999, "account", 6);
    }

    /** "7 for the balances of all funds together": each of the five counts */
    static void promise27_account_eachFundCounts() {
        Scene scene = withShares(1);
        int sum = 0;
        for (int purpose = 0; purpose <= 4; purpose++) {
            sum += 1 << purpose;
            scene = scene.then("fund", purpose, 1 << purpose).tells(sum, "account", 7);
        }
        scene.then("book", 0, 0, 4, 99, true).tells(15, "account", 7).tells(16, "account", 10);
    }

    /** "10 for all that funds have paid": undo takes it back, restore brings back what was saved */
    static void promise27_account_whatFundsPaidIsUndoneAndRestored() {
        BUSY.then("book", 0, 0, 0, 1000, true).tells(1040, "account", 10).then("undo").tells(40, "account", 10);
        BUSY.then("restore").tells(0, "account", 10);
    }

    /** "if there is no such unit" */
    static void promise28_share_units0And4AreThere_unitsMinus1And5AreNot() {
        BUSY.onlyTells(0.2, "share", 0).onlyTells(0.12, "share", 4);
        BUSY.fails(IOOBE, "share", -1).fails(IOOBE, "share", 5);
        BUSY.fails(IOOBE, "share", LEAST_INT).fails(IOOBE, "share", GREATEST_INT);
        EMPTY.fails(IOOBE, "share", 0);
        FULL.tells(21.0 / 186.0, "share", 11).fails(IOOBE, "share", 12);
    }

    /** "its shares divided by all shares, both as doubles" */
    static void promise28_share_1OfTheOnlyUnit_theLeastAndTheGreatest() {
        withShares(1).tells(1.0, "share", 0);
        withShares(300).tells(1.0, "share", 0);
        withShares(1, 2).tells(1.0 / 3.0, "share", 0).tells(2.0 / 3.0, "share", 1);
        Scene scene = withShares(1, 300, 300, 300, 300, 300, 300, 300, 300, 300, 300, 300);
        scene.tells(1.0 / 3301.0, "share", 0).tells(300.0 / 3301.0, "share", 11);
    }

    /** "if no change is kept" */
    static void promise29_undo_withoutAChangeThereIsNone_behindOneThereIs() {
        EMPTY.fails(ISE, "undo");
        EMPTY.then("set", 0, 30).takes(0, "undo").fails(ISE, "undo");
        EMPTY.then("save").fails(ISE, "undo");
        BUSY.then("restore").fails(ISE, "undo");
    }

    /** "Returns the number of changes that can still be undone." */
    static void promise29_undo_answersHowManyAreLeft_7AtMost() {
        Scene scene = EMPTY;
        for (int changes = 1; changes <= 10; changes++) {
            scene = scene.then("set", 0, changes).tells(Math.min(changes, 8) - 1, "undo");
        }
        for (int left = 7; left >= 0; left--) {
            scene = scene.takes(left, "undo").tells(left + 2, "set", 0, 50);
        }
        scene.fails(ISE, "undo");
    }

    static void promise29_undo_changesBehindUndoTakeThePlaceOfTheUndoneOnes() {
        Scene scene = EMPTY;
        for (int value = 1; value <= 9; value++) {
            scene = scene.then("set", 0, value);
        }
        scene = scene.takes(7, "undo").takes(6, "undo").takes(5, "undo").takes(6, "set", 0, 70).takes(70, "set", 0, 80);
        scene = scene.takes(80, "set", 0, 90).takes(7, "undo").tells(80, "set", 0, 1);
    }

    private static Scene sets(Scene scene, int first, int last) {
        Scene behind = scene;
        for (int value = first; value <= last; value++) {
            behind = behind.then("set", 0, value);
        }
        return behind;
    }

    /** Behind undo, eight changes are kept again, the older ones among them. */
    static void promise29_undo_behindUndoAndNewChangesEightAreKeptAgain() {
        Scene scene = sets(sets(EMPTY, 1, 10).times(3, "undo"), 50, 52);
        int[] due = {51, 50, 7, 6, 5, 4, 3, 2};
        for (int i = 0; i < due.length; i++) {
            scene = scene.takes(7 - i, "undo").tells(due[i], "set", 0, 1);
        }
        scene.fails(ISE, "undo");
        Scene four = sets(sets(EMPTY, 1, 10).times(3, "undo"), 50, 53).times(8, "undo");
        four.tells(3, "set", 0, 1).fails(ISE, "undo");
    }

    static void promise29_undo_bringsTheOldestCostBackThatWent() {
        Scene full = withShares(1).then("book", 0, 0, 0, 4, false).times(18, "book", 0, 0, 0, 5, false)
                .then("book", 0, 0, 0, 7, false);
        Scene more = full.then("book", 3, 0, 1, 8, false).tells(5, "cost", 0, 3).tells(8, "cost", 19, 3);
        more.then("undo").tells(4, "cost", 0, 3).tells(7, "cost", 19, 3).tells(20, "account", 3);
        more.then("undo").then("undo").tells(4, "cost", 0, 3).tells(5, "cost", 18, 3).tells(19, "account", 3);
    }

    static void promise29_undo_leavesTheSnapshot() {
        Scene scene = withShares(1, 2).then("pay", 0, 5).then("save").then("undo").tells(0, "unit", 0, 6);
        scene.then("restore").tells(5, "unit", 0, 6);
        scene.times(2, "undo").tells(0, "account", 0).then("restore").tells(2, "account", 0).tells(5, "unit", 0, 6);
    }

    /** "Saves the ledger, in place of an earlier snapshot." */
    static void promise30_save_theLaterSnapshotTakesThePlaceOfTheEarlierOne() {
        Scene scene = withShares(1).then("pay", 0, 5).then("save").then("pay", 0, 2).then("save").then("pay", 0, 1);
        scene.then("restore").tells(7, "unit", 0, 6);
        scene.then("undo").then("undo").then("restore").tells(7, "unit", 0, 6);
        scene.then("restore").then("pay", 0, 30).then("save").then("pay", 0, 1).then("restore").tells(37, "unit", 0, 6);
    }

    /** An empty ledger is saved, too. */
    static void promise30_save_aNewLedgerIsSaved() {
        Scene restored = EMPTY.then("save").then("addUnit", 0, 0, 1, 0).then("set", 0, 7).then("fund", 0, 5)
                .then("restore");
        EMPTY.then("save").sameAs(restored, "restore of a new ledger");
        restored.tells(0, "account", 0).tells(0, "balance", 0).tells(30, "set", 0, 1);
    }

    static void promise30_save_changesNothingElse() {
        Scene saved = BUSY.then("save");
        saved.tells(7, "undo").tells(-1, "faultPosition").tells(3, "refusal").tells(-446, "unit", 0, 6);
        saved.then("append", '0').tells(1, "bookAll");
        Scene unsaved = withShares(1, 2).then("pay", 0, 5);
        unsaved.then("save").tells(2, "undo");
        saved.then("save").sameAs(saved, "a second save");
    }

    private static void isNotSaved(String name, Object... arguments) {
        Scene restored = READY.then("save").then("restore");
        restored.sameAs(READY.then("save").then(name, arguments).then("restore"), "restore behind " + name);
    }

    /** What comes behind save does not leak into the snapshot, of whatever kind it is. */
    static void promise30_save_laterChangesAreNotSaved() {
        isNotSaved("addUnit", 2, 2, 3, 4);
        isNotSaved("setOwner", 0, 5);
        isNotSaved("set", 0, 7);
        isNotSaved("set", 1, 7);
        isNotSaved("read", 0, 999);
        isNotSaved("pay", 0, 7);
        isNotSaved("book", 4, 0, 0, 2000, true);
        isNotSaved("fund", 2, 11);
        isNotSaved("move", 0, 0, 0, 12);
        isNotSaved("vote", 2, 4, 1);
        isNotSaved("close", 2);
        isNotSaved("undo");
        Scene full = FULL.then("save").then("restore");
        full.sameAs(FULL.then("save").then("book", 4, 0, 0, 2000, true).then("vote", 5, 11, -1).then("restore"),
                "restore of a full ledger");
    }

    /** "if there is no snapshot" */
    static void promise31_restore_withoutASnapshotThereIsNone_behindSaveThereIs() {
        EMPTY.fails(ISE, "restore").then("save").takes(null, "restore");
        withShares(1).then("pay", 0, 5).fails(ISE, "restore").tells(1, "undo");
        withShares(1).then("restore").then("save").takes(null, "restore").tells(1, "account", 0);
    }

    /** "Restores what was saved; the snapshot is kept." */
    static void promise31_restore_theSnapshotIsKept() {
        Scene saved = BUSY.then("save").then("restore");
        saved.sameAs(saved.then("restore"), "restore twice");
        saved.sameAs(saved.then("close", 2).then("book", 4, 0, 0, 2000, true).then("pay", 0, 1).then("restore"),
                "restore behind changes behind restore");
        saved.sameAs(saved.then("pay", 0, 1).then("undo").then("restore"), "restore behind undo");
    }

    static void promise31_restore_bringsBackWhatWasSaved() {
        Scene behind = BUSY.then("restore");
        behind.tells(-696, "unit", 0, 6).tells(0, "unit", 1, 7).tells(5, "unit", 4, 3).tells(50, "unit", 2, 4)
                .tells(1300, "balance", 0).tells(2, "account", 3).tells(0, "voted", 2, 1).tells(0, "voted", 2, 3)
                .tells(1, "voted", 2, 0).tells(40, "set", 0, 1).tells(0, "account", 10);
        FULL.then("restore").tells(0, "unit", 11, 4).tells(0, "unit", 3, 7).tells(0, "motion", 7, 4)
                .tells(2, "motion", 6, 4);
    }

    static void promise31_restore_isNoChange() {
        BUSY.then("restore").then("pay", 0, 1).takes(0, "undo").fails(ISE, "undo").tells(-696, "unit", 0, 6);
    }

    static void promise31_restore_leavesTextFaultPositionAndReason() {
        BUSY.then("restore").tells(3, "refusal").tells(-1, "faultPosition").then("append", '0').tells(1, "bookAll");
        READY.writeAndBook("a:").then("restore").tells(2, "faultPosition");
        EMPTY.then("save").then("fund", 0, 1).then("restore").tells(1, "refusal");
        EMPTY.then("fund", 0, 1).then("save").then("addUnit", 0, 0, 1, 0).then("pay", 0, 0).then("restore")
                .tells(2, "refusal");
    }
}
