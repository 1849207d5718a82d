/** Edges of the terms but for dividing and reasons: kinds, funds, costs, changes and the number of calls. */
final class TermsEdges extends Edges {
    private static final Scene WITH_FUND = withShares(1, 3).then("read", 0, 7).then("fund", 2, 100);

    /** Four changes; the fourth makes a motion. */
    private static final Scene FOUR_CHANGES = withShares(1, 2).then("fund", 0, 50).then("move", 0, 0, 1, 9);

    private static void placeFits(int kind, int place, int concerned) {
        NINE_STAIRS.takes(0, "book", kind, place, 0, 900, false).tells(place, "cost", 0, 1)
                .tells(concerned, "cost", 0, 5).tells(900, "account", 9);
        int unit = kind == 1 ? 3 * place + 2 : place;
        NINE_STAIRS.tells(900 / concerned, "wouldPay", kind, place, 900, unit);
        if (kind != 4) {
            NINE_STAIRS.takes(0, "move", kind, place, 0, 900).tells(place, "motion", 0, 1);
        }
    }

    private static void placeDoesNotFit(int kind, int place) {
        NINE_STAIRS.fails(IAE, "book", kind, place, 0, 900, false).fails(IAE, "wouldPay", kind, place, 900, 0)
                .fails(IAE, "move", kind, place, 0, 900);
    }

    /** "otherwise, it is 0" */
    static void terms_kinds_place0FitsTheKinds0And3And4_placesMinus1And1DoNot() {
        for (int kind : new int[] {0, 3, 4}) {
            placeFits(kind, 0, 9);
            placeDoesNotFit(kind, -1);
            placeDoesNotFit(kind, 1);
            placeDoesNotFit(kind, LEAST_INT);
            placeDoesNotFit(kind, GREATEST_INT);
        }
    }

    /** "The place is the house for the kind 1" */
    static void terms_kinds_places0And2FitTheKind1_placesMinus1And3DoNot() {
        placeFits(1, 0, 3);
        placeFits(1, 1, 3);
        placeFits(1, 2, 3);
        placeDoesNotFit(1, -1);
        placeDoesNotFit(1, 3);
        placeDoesNotFit(1, LEAST_INT);
        placeDoesNotFit(1, GREATEST_INT);
    }

    /** "and 3 times the house plus the stair for the kind 2" */
    static void terms_kinds_places0And8FitTheKind2_placesMinus1And9DoNot() {
        for (int place = 0; place <= 8; place++) {
            placeFits(2, place, 1);
        }
        placeDoesNotFit(2, -1);
        placeDoesNotFit(2, 9);
        placeDoesNotFit(2, LEAST_INT);
        placeDoesNotFit(2, GREATEST_INT);
    }

    /** Stair 2 of a house and stair 0 of the next one are neighbours among the places. */
    static void terms_kinds_aStairIsNotThatOfTheNextHouse() {
        for (int place = 0; place <= 8; place++) {
            Scene booked = NINE_STAIRS.then("book", 2, place, 0, 5, false);
            for (int unit = 0; unit <= 8; unit++) {
                booked.tells(unit == place ? 5 : 0, "part", 0, unit);
            }
        }
    }

    /** "the fund with its purpose pays as much of it as its balance allows, which lowers the balance" */
    static void terms_funds_oneLessThanTheBalance_theBalance_andOneMore() {
        parts(WITH_FUND.takes(99, "book", 0, 0, 2, 99, true).tells(1, "balance", 2), 0, 0, 0);
        parts(WITH_FUND.takes(100, "book", 0, 0, 2, 100, true).tells(0, "balance", 2), 0, 0, 0);
        parts(WITH_FUND.takes(100, "book", 0, 0, 2, 101, true).tells(0, "balance", 2), 0, 0, 1);
        parts(WITH_FUND.takes(100, "book", 0, 0, 2, 108, true).tells(0, "balance", 2), 0, 2, 6);
    }

    /** "a balance of at least 0" */
    static void terms_funds_anEmptyFundPaysNothing_aBalanceOf1Pays1() {
        WITH_FUND.takes(0, "book", 0, 0, 1, 5, true).tells(0, "balance", 1).tells(0, "account", 10);
        WITH_FUND.then("fund", 1, 1).takes(1, "book", 0, 0, 1, 5, true).tells(0, "balance", 1).tells(1, "account", 10);
        WITH_FUND.then("book", 0, 0, 2, 100, true).takes(0, "book", 0, 0, 2, 1, true).tells(0, "balance", 2);
    }

    static void terms_funds_theGreatestCostFromTheGreatestFund() {
        ALMOST_FULL_FUND.then("fund", 1, 9).takes(MOST, "book", 0, 0, 1, MOST, true).tells(90000000, "balance", 1)
                .tells(MOST, "account", 10);
    }

    /** "If it is booked with its fund": otherwise, the fund pays nothing, and no other fund pays. */
    static void terms_funds_aCostThatIsNotFundedLeavesItsFund_andEachCostTheOtherFunds() {
        WITH_FUND.takes(0, "book", 0, 0, 2, 5, false).tells(100, "balance", 2);
        WITH_FUND.takes(0, "book", 0, 0, 3, 5, true).tells(100, "balance", 2);
    }

    /** "If there is no rest, nothing is divided, and no meter is billed." */
    static void terms_costs_noRestBillsNoMeter_aRestOf1BillsEachOne() {
        Scene covered = WITH_FUND.takes(100, "book", 4, 0, 2, 100, true).tells(7, "unit", 0, 5).tells(100, "account", 9);
        parts(covered, 0, 0, 0);
        Scene almost = WITH_FUND.takes(100, "book", 4, 0, 2, 101, true).tells(0, "unit", 0, 5).tells(101, "account", 9);
        parts(almost, 0, 1, 0);
    }

    /** The base rate is of what is divided, which is the rest that the fund leaves. */
    static void terms_costs_theFundPaysAheadOfTheBase() {
        parts(WITH_FUND.takes(100, "book", 4, 0, 2, 200, true), 0, 8 + 70, 22);
    }

    private static Scene costs(int count) {
        Scene scene = withShares(1, 2);
        for (int i = 0; i < count; i++) {
            scene = scene.then("book", i % 2 * 3, 0, i % 5, 3 * (i + 1), false);
        }
        return scene;
    }

    /** "At most 20 costs are kept, numbered from 0" */
    static void terms_costs_20AreKept_behindThe21stTheyAreStill20() {
        costs(19).tells(19, "account", 3).tells(3, "cost", 0, 3).tells(57, "cost", 18, 3);
        costs(20).tells(20, "account", 3).tells(3, "cost", 0, 3).tells(60, "cost", 19, 3).fails(IOOBE, "cost", 20, 0);
        costs(21).tells(20, "account", 3).tells(63, "cost", 19, 3).fails(IOOBE, "cost", 20, 0);
    }

    /** "the oldest one goes, and the numbers of the others decrease by 1" */
    static void terms_costs_behindThe21st_theNumbersOfTheOthersDecreaseBy1() {
        Scene full = costs(20);
        Scene more = full.then("book", 1, 0, 4, 300, false);
        for (int cost = 0; cost < 19; cost++) {
            for (int what = 0; what <= 5; what++) {
                int i = cost + 1;
                int[] due = {i % 2 * 3, 0, i % 5, 3 * (i + 1), 0, 2};
                full.tells(due[what], "cost", i, what);
                more.tells(due[what], "cost", cost, what);
            }
        }
        parts(full, 2, 3, 6);
        parts(more, 1, 3, 6);
        parts(full, 19, 30, 30);
        parts(more, 18, 30, 30);
        parts(more, 19, 100, 200);
    }

    static void terms_costs_aTextOf6BringsTheOldestOnesToGo() {
        String six = "a:0=0.09;a:0=0.12;a:0=0.15;a:0=0.18;a:0=0.21;a:0=0.24";
        Scene behind = costs(14).books(6, six);
        behind.tells(20, "account", 3).tells(3, "cost", 0, 3).tells(24, "cost", 19, 3);
        behind = costs(15).books(6, six);
        behind.tells(20, "account", 3).tells(6, "cost", 0, 3).tells(24, "cost", 19, 3);
        behind = costs(20).books(6, six);
        behind.tells(20, "account", 3).tells(21, "cost", 0, 3).tells(60, "cost", 13, 3).tells(9, "cost", 14, 3);
        parts(behind, 14, 3, 6);
    }

    /** "What a cost charged stays charged when the cost goes." */
    static void terms_costs_whatACostChargedStaysChargedWhenItGoes() {
        Scene full = costs(20).tells(630, "account", 9);
        Scene more = full.then("book", 0, 0, 0, 3, false);
        more.tells(633, "account", 9).tells(-633, "account", 6);
        more.then("undo").tells(630, "account", 9).tells(3, "cost", 0, 3);
    }

    /** What the fund paid for it stays paid, too. */
    static void terms_costs_whatAFundPaidStaysPaidWhenTheCostGoes() {
        Scene paid = WITH_FUND.then("book", 0, 0, 2, 60, true).times(19, "book", 0, 0, 0, 1, false);
        paid.tells(60, "cost", 0, 4).tells(60, "account", 10);
        paid.then("book", 0, 0, 0, 1, false).tells(0, "cost", 0, 4).tells(60, "account", 10).tells(40, "balance", 2);
    }

    /** "A unit that is made later has no part in earlier costs." */
    static void terms_inDoubt_aLaterUnitHasNoPartInEarlierCosts() {
        Scene later = costs(2).then("addUnit", 0, 0, 300, 0);
        later.tells(0, "part", 0, 2).tells(0, "part", 1, 2).tells(0, "unit", 2, 8).tells(2, "cost", 0, 5);
        later.then("book", 3, 0, 0, 3, false).tells(1, "part", 2, 2).tells(3, "cost", 2, 5);
    }

    private static void isOneChange(String name, Object... arguments) {
        Scene behind = FOUR_CHANGES.then(name, arguments);
        behind.tells(4, "undo");
        FOUR_CHANGES.sameAs(behind.then("undo"), "undo of " + name);
    }

    /** "A change is a successful call of addUnit, setOwner, set, read, pay, book, bookAll, fund, move, vote or close." */
    static void terms_changes_eachOfTheElevenCallsIsOneChangeThatUndoTakesBack() {
        isOneChange("addUnit", 2, 2, 3, 4);
        isOneChange("setOwner", 0, 5);
        isOneChange("set", 1, 51);
        isOneChange("read", 0, 6);
        isOneChange("pay", 0, 7);
        isOneChange("book", 0, 0, 0, 80, true);
        isOneChange("fund", 2, 11);
        isOneChange("move", 0, 0, 0, 12);
        isOneChange("vote", 0, 1, 1);
        isOneChange("close", 0);
        Scene toCarry = FOUR_CHANGES.then("set", 1, 0).then("vote", 0, 1, 1);
        Scene carried = toCarry.takes(1, "close", 0).tells(6, "undo");
        toCarry.sameAs(carried.then("undo"), "undo of a close that carries");
        Scene text = FOUR_CHANGES.books(3, "m:0=0.70f;a:1=0.01;e:2=3.00").tells(4, "undo");
        FOUR_CHANGES.sameAs(text.then("undo"), "undo of bookAll");
    }

    /** "A successful call is a change even if it leaves all as it was." */
    static void terms_changes_aCallThatLeavesAllAsItWasIsAChange() {
        isOneChange("setOwner", 0, 0);
        isOneChange("set", 0, 30);
        isOneChange("set", 1, 50);
        isOneChange("read", 0, 0);
        isOneChange("vote", 0, 1, 0);
        FOUR_CHANGES.then("vote", 0, 1, 1).then("vote", 0, 1, 1).tells(5, "undo");
    }

    static void terms_changes_aCallThatFailsIsNoChange() {
        FOUR_CHANGES.then("pay", 0, 0).then("set", 2, 0).then("close", 1).then("bookAll").then("restore")
                .tells(3, "undo");
        Scene undone = FOUR_CHANGES.times(4, "undo");
        undone.fails(ISE, "undo").then("pay", 0, 1).tells(ISE.getName(), "undo");
    }

    /** Whatever only asks, and append and save, are not among the eleven. */
    static void terms_changes_otherCallsAreNone() {
        FOUR_CHANGES.then("append", 'a').then("save").tells(3, "undo");
        BUSY.onlyTells(1, "unit", 1, 3).onlyTells(0.4, "share", 1);
    }

    /** "The ledger before each of the latest 8 changes is kept and can be undone" */
    static void terms_changes_eightChangesAreUndone_theNinthIsNot() {
        Scene scene = EMPTY;
        for (int unit = 0; unit < 9; unit++) {
            scene = scene.then("addUnit", 0, 0, unit + 1, 0);
        }
        for (int left = 7; left >= 0; left--) {
            scene = scene.takes(left, "undo").tells(left + 1, "account", 0);
        }
        scene.fails(ISE, "undo").tells(1, "account", 0).tells(1, "account", 1);
    }

    static void terms_changes_ofExactlyEightAllAreUndone() {
        Scene scene = withEqualUnits(8).tells(7, "undo").times(7, "undo").takes(0, "undo");
        scene.tells(0, "account", 0).fails(ISE, "undo");
        EMPTY.sameAs(scene, "undo of all changes");
    }

    /** "restore forgets them" */
    static void terms_changes_restoreForgetsThem() {
        FOUR_CHANGES.then("save").then("pay", 0, 1).then("restore").fails(ISE, "undo");
        BUSY.then("restore").fails(ISE, "undo").then("set", 0, 40).takes(0, "undo").fails(ISE, "undo");
    }

    /** "The text buffer ... do not belong to it, and stay." */
    static void terms_changes_undoAndRestoreLeaveTheTextBuffer() {
        BUSY.then("undo").then("append", '5').takes(1, "bookAll").tells(105, "cost", 3, 3);
        BUSY.then("restore").then("append", '5').takes(1, "bookAll").tells(105, "cost", 2, 3);
        Scene saved = READY.write("a:0=").then("save").write("1.").then("pay", 0, 1).write("00");
        saved.then("undo").takes(1, "bookAll").tells(100, "cost", 3, 3);
        saved.then("restore").takes(1, "bookAll").tells(100, "cost", 3, 3);
        Scene emptied = READY.write("a:0=1.00").then("save").then("bookAll");
        emptied.then("undo").tells(IAE.getName(), "bookAll").then("bookAll").tells(0, "faultPosition");
        emptied.then("restore").tells(IAE.getName(), "bookAll").then("bookAll").tells(0, "faultPosition");
    }

    /** "the fault position" */
    static void terms_changes_undoAndRestoreLeaveTheFaultPosition() {
        Scene fault = READY.writeAndBook("a:0").tells(3, "faultPosition");
        fault.then("undo").tells(3, "faultPosition");
        fault.then("restore").tells(3, "faultPosition");
        Scene none = READY.writeAndBook("a:0").then("save").then("pay", 0, 1).writeAndBook("a:0=1.00");
        none.then("undo").tells(-1, "faultPosition");
        none.then("restore").tells(-1, "faultPosition");
    }

    /** "and the reason that is kept" */
    static void terms_changes_undoAndRestoreLeaveTheReason() {
        READY.then("undo").tells(3, "refusal");
        READY.then("restore").tells(3, "refusal");
        Scene later = READY.then("save").then("pay", 0, 1).then("pay", 0, 0);
        later.then("undo").tells(2, "refusal");
        later.then("restore").tells(2, "refusal");
    }

    /** "An object is used for at most 512 calls after it has been made" */
    static void terms_calls_the512thCallIsAnswered() {
        Scene behind = withShares(4).times(510, "pay", 0, 1);
        behind.tells(510, "unit", 0, 6).tells(511, "pay", 0, 1).tells(7, "undo").tells(1.0, "share", 0);
        Scene changed = withShares(4).then("save").times(509, "set", 0, 77);
        changed.tells(30, "wouldPay", 4, 0, 30, 0).tells(null, "restore").tells(77, "set", 0, 1);
    }
}
