/** Edges of the promises 1 to 9. */
final class UnitsEdges extends Edges {

    /** "Creates a ledger without units" */
    static void promise01_newLedger_hasNoUnits() {
        EMPTY.tells(0, "account", 0).tells(0, "account", 1).tells(0, "account", 2);
        EMPTY.fails(IOOBE, "unit", 0, 0).fails(NSEE, "debtor").takes(0, "addUnit", 0, 0, 1, 0);
    }

    /** "with all funds ... 0" */
    static void promise01_newLedger_hasEmptyFunds() {
        for (int purpose = 0; purpose <= 4; purpose++) {
            EMPTY.tells(0, "balance", purpose);
        }
        EMPTY.tells(0, "account", 7).tells(0, "account", 10);
    }

    /** "with all ... accounts 0" */
    static void promise01_newLedger_hasEmptyAccounts() {
        EMPTY.tells(0, "account", 6).tells(0, "account", 8).tells(0, "account", 9);
        for (int owner = 0; owner <= 7; owner++) {
            EMPTY.tells(0, "owned", owner);
        }
        EMPTY.then("addUnit", 0, 0, 1, 0).tells(0, "unit", 0, 6).tells(0, "unit", 0, 7).tells(0, "unit", 0, 8);
    }

    static void promise01_newLedger_hasNeitherCostsNorMotions() {
        EMPTY.tells(0, "account", 3).tells(0, "account", 4).tells(0, "account", 5);
        EMPTY.fails(IOOBE, "cost", 0, 0).fails(IOOBE, "motion", 0, 0);
    }

    static void promise01_newLedger_hasNeitherChangesNorSnapshotNorReasonNorText() {
        EMPTY.fails(ISE, "undo").fails(ISE, "restore").fails(NSEE, "refusal").tells(-1, "faultPosition");
        EMPTY.faults(0, "");
    }

    static void promise01_newLedger_sharesNothingWithAnother() {
        CondoLedger one = new CondoLedger();
        CondoLedger other = new CondoLedger();
        one.addUnit(0, 0, 5, 0);
        one.addUnit(0, 0, 7, 0);
        one.set(0, 99);
        one.fund(2, 10);
        one.save();
        one.append('x');
        Check.thrown("bookAll", IAE, one::bookAll);
        Check.thrown("pay(0, 0)", Check.REFUSED, () -> one.pay(0, 0));
        Check.same("account(0)", other.account(0), 0);
        Check.same("balance(2)", other.balance(2), 0);
        Check.same("faultPosition()", other.faultPosition(), -1);
        Check.thrown("refusal()", NSEE, other::refusal);
        Check.thrown("undo()", ISE, other::undo);
        Check.thrown("restore()", ISE, other::restore);
        other.addUnit(0, 0, 9, 0);
        Check.same("set(0, 1)", other.set(0, 1), 30);
        Check.same("wouldPay(0, 0, 12, 0)", one.wouldPay(0, 0, 12, 0), 5);
    }

    /** "A unit is in a house from 0 to 2"; "if a number is out of range" */
    static void promise02_addUnit_houses0And2AreTaken_housesMinus1And3AreNot() {
        BUSY.takes(5, "addUnit", 0, 1, 9, 4).tells(0, "unit", 5, 0);
        BUSY.takes(5, "addUnit", 2, 1, 9, 4).tells(2, "unit", 5, 0);
        BUSY.fails(IAE, "addUnit", -1, 1, 9, 4).fails(IAE, "addUnit", 3, 1, 9, 4);
        BUSY.fails(IAE, "addUnit", LEAST_INT, 1, 9, 4).fails(IAE, "addUnit", GREATEST_INT, 1, 9, 4);
    }

    /** "on a stair from 0 to 2" */
    static void promise02_addUnit_stairs0And2AreTaken_stairsMinus1And3AreNot() {
        BUSY.takes(5, "addUnit", 1, 0, 9, 4).tells(0, "unit", 5, 1);
        BUSY.takes(5, "addUnit", 1, 2, 9, 4).tells(2, "unit", 5, 1);
        BUSY.fails(IAE, "addUnit", 1, -1, 9, 4).fails(IAE, "addUnit", 1, 3, 9, 4);
        BUSY.fails(IAE, "addUnit", 1, LEAST_INT, 9, 4).fails(IAE, "addUnit", 1, GREATEST_INT, 9, 4);
    }

    /** "it has shares from 1 to 300" */
    static void promise02_addUnit_shares1And300AreTaken_0And301AreNot() {
        BUSY.takes(5, "addUnit", 1, 1, 1, 4).tells(1, "unit", 5, 2);
        BUSY.takes(5, "addUnit", 1, 1, 300, 4).tells(300, "unit", 5, 2);
        BUSY.fails(IAE, "addUnit", 1, 1, 0, 4).fails(IAE, "addUnit", 1, 1, 301, 4).fails(IAE, "addUnit", 1, 1, -1, 4);
        BUSY.fails(IAE, "addUnit", 1, 1, LEAST_INT, 4).fails(IAE, "addUnit", 1, 1, GREATEST_INT, 4);
    }

    /** "an owner from 0 to 7" */
    static void promise02_addUnit_owners0And7AreTaken_ownersMinus1And8AreNot() {
        BUSY.takes(5, "addUnit", 1, 1, 9, 0).tells(0, "unit", 5, 3);
        BUSY.takes(5, "addUnit", 1, 1, 9, 7).tells(7, "unit", 5, 3);
        BUSY.fails(IAE, "addUnit", 1, 1, 9, -1).fails(IAE, "addUnit", 1, 1, 9, 8);
        BUSY.fails(IAE, "addUnit", 1, 1, 9, LEAST_INT).fails(IAE, "addUnit", 1, 1, 9, GREATEST_INT);
    }

    /** "At most 12 units are made"; "if 12 units were made" */
    static void promise02_addUnit_the12thIsMade_the13thIsNot() {
        Scene twelve = withEqualUnits(11).takes(11, "addUnit", 2, 1, 30, 6);
        twelve.tells(12, "account", 0).tells(30, "unit", 11, 2).fails(ISE, "addUnit", 0, 0, 1, 0);
        FULL.fails(ISE, "addUnit", 2, 2, 300, 7);
    }

    /** "numbered from 0" */
    static void promise02_addUnit_unitsAreNumberedFrom0() {
        Scene scene = EMPTY;
        for (int unit = 0; unit < 12; unit++) {
            scene = scene.takes(unit, "addUnit", unit % 3, 0, unit + 1, 0);
        }
        scene.tells(1, "unit", 0, 2).tells(12, "unit", 11, 2);
    }

    static void promise02_addUnit_behind12Units_outOfRangeIsToldFirst() {
        FULL.fails(IAE, "addUnit", 3, 0, 1, 0).fails(IAE, "addUnit", 0, 3, 1, 0);
        FULL.fails(IAE, "addUnit", 0, 0, 0, 0).fails(IAE, "addUnit", 0, 0, 1, 8);
    }

    static void promise02_addUnit_the12thIsUndone_anotherIsMade() {
        withEqualUnits(12).then("undo").takes(11, "addUnit", 1, 1, 250, 3).tells(250, "unit", 11, 2)
                .fails(ISE, "addUnit", 0, 0, 1, 0);
    }

    /** "a meter whose reading is ... 0 at first, and whose billed reading is 0 at first"; its account is 0 at first */
    static void promise02_addUnit_readingUseAndAccountAre0AtFirst() {
        Scene behind = BUSY.takes(5, "addUnit", 2, 2, 300, 7);
        for (int what = 4; what <= 8; what++) {
            behind.tells(0, "unit", 5, what);
        }
    }

    static void promise02_addUnit_behindUndoOfAUsedUnit_allIs0AtFirst() {
        Scene used = EMPTY.then("addUnit", 0, 0, 1, 0).then("addUnit", 0, 0, 1, 0).then("read", 1, 50)
                .then("book", 4, 0, 0, 10, false).then("read", 1, 70).then("pay", 1, 5);
        Scene undone = used.times(5, "undo").tells(1, "account", 0).takes(1, "addUnit", 0, 0, 2, 0);
        for (int what = 4; what <= 8; what++) {
            undone.tells(0, "unit", 1, what);
        }
    }

    /** "if there is no such unit" */
    static void promise03_setOwner_units0And4AreThere_unitsMinus1And5AreNot() {
        BUSY.takes(0, "setOwner", 0, 6).tells(6, "unit", 0, 3).tells(1, "unit", 1, 3);
        BUSY.takes(3, "setOwner", 4, 6).tells(6, "unit", 4, 3).tells(0, "unit", 3, 3);
        BUSY.fails(IOOBE, "setOwner", -1, 6).fails(IOOBE, "setOwner", 5, 6);
        BUSY.fails(IOOBE, "setOwner", LEAST_INT, 6).fails(IOOBE, "setOwner", GREATEST_INT, 6);
        EMPTY.fails(IOOBE, "setOwner", 0, 0);
    }

    static void promise03_setOwner_unit11IsThere_unit12IsNot() {
        FULL.takes(3, "setOwner", 11, 0).tells(0, "unit", 11, 3);
        FULL.fails(IOOBE, "setOwner", 12, 0);
    }

    /** "if the owner is out of range" */
    static void promise03_setOwner_owners0And7AreTaken_ownersMinus1And8AreNot() {
        BUSY.takes(1, "setOwner", 1, 0).tells(0, "unit", 1, 3);
        BUSY.takes(1, "setOwner", 1, 7).tells(7, "unit", 1, 3);
        BUSY.fails(IAE, "setOwner", 1, -1).fails(IAE, "setOwner", 1, 8);
        BUSY.fails(IAE, "setOwner", 1, LEAST_INT).fails(IAE, "setOwner", 1, GREATEST_INT);
    }

    static void promise03_setOwner_noUnitIsToldAheadOfOwnerOutOfRange() {
        BUSY.fails(IOOBE, "setOwner", -1, -1).fails(IOOBE, "setOwner", 5, 8);
    }

    /** "Returns the owner before." */
    static void promise03_setOwner_answersTheOwnerBefore_alsoIfItStays() {
        BUSY.takes(3, "setOwner", 4, 3).takes(3, "setOwner", 4, 7).takes(7, "setOwner", 4, 0).tells(0, "unit", 4, 3);
    }

    /** "if there is no such setting" */
    static void promise04_set_settings0And1AreThere_settingsMinus1And2AreNot() {
        BUSY.takes(45, "set", 0, 7).tells(7, "set", 0, 8).tells(30, "set", 1, 8);
        BUSY.takes(30, "set", 1, 7).tells(7, "set", 1, 8).tells(45, "set", 0, 8);
        BUSY.fails(IOOBE, "set", -1, 7).fails(IOOBE, "set", 2, 7);
        BUSY.fails(IOOBE, "set", LEAST_INT, 7).fails(IOOBE, "set", GREATEST_INT, 7);
    }

    /** "Setting 0 is the base rate, 0 to 100" */
    static void promise04_set_baseRates0And100AreTaken_minus1And101AreNot() {
        BUSY.takes(45, "set", 0, 0).tells(0, "set", 0, 1);
        BUSY.takes(45, "set", 0, 100).tells(100, "set", 0, 1);
        BUSY.fails(IAE, "set", 0, -1).fails(IAE, "set", 0, 101);
        BUSY.fails(IAE, "set", 0, LEAST_INT).fails(IAE, "set", 0, GREATEST_INT);
    }

    /** "1 is the quota, 0 to 100" */
    static void promise04_set_quotas0And100AreTaken_minus1And101AreNot() {
        BUSY.takes(30, "set", 1, 0).tells(0, "set", 1, 1);
        BUSY.takes(30, "set", 1, 100).tells(100, "set", 1, 1);
        BUSY.fails(IAE, "set", 1, -1).fails(IAE, "set", 1, 101);
        BUSY.fails(IAE, "set", 1, LEAST_INT).fails(IAE, "set", 1, GREATEST_INT);
    }

    static void promise04_set_noSettingIsToldAheadOfValueOutOfRange() {
        BUSY.fails(IOOBE, "set", -1, -1).fails(IOOBE, "set", 2, 101);
    }

    /** "30 at first", "50 at first" */
    static void promise04_set_30And50AtFirst() {
        EMPTY.tells(30, "set", 0, 0).tells(50, "set", 1, 0);
    }

    /** "if there is no such unit" */
    static void promise05_read_units0And4AreThere_unitsMinus1And5AreNot() {
        BUSY.takes(31, "read", 0, 131).tells(131, "unit", 0, 4).tells(0, "unit", 1, 4);
        BUSY.takes(1, "read", 4, 1).tells(1, "unit", 4, 4).tells(7, "unit", 3, 4);
        BUSY.fails(IOOBE, "read", -1, 500).fails(IOOBE, "read", 5, 500);
        BUSY.fails(IOOBE, "read", LEAST_INT, 500).fails(IOOBE, "read", GREATEST_INT, 500);
        EMPTY.fails(IOOBE, "read", 0, 0);
        FULL.takes(1, "read", 10, 1);
        FULL.fails(IOOBE, "read", 12, 1);
    }

    /** "if the reading is less than before" */
    static void promise05_read_theSameReadingIsTaken_oneLessIsNot() {
        BUSY.takes(30, "read", 0, 130).tells(130, "unit", 0, 4);
        BUSY.fails(IAE, "read", 0, 129).fails(IAE, "read", 0, 0).fails(IAE, "read", 0, -1);
        BUSY.fails(IAE, "read", 0, LEAST_INT);
    }

    /** A meter that was billed up to 100 has been read since: the reading counts, not the billed one. */
    static void promise05_read_aReadingBetweenTheBilledAndTheLatestOneIsNotTaken() {
        BUSY.fails(IAE, "read", 0, 110).fails(IAE, "read", 0, 100);
    }

    /** "or greater than 99999" */
    static void promise05_read_99999IsTaken_100000IsNot() {
        BUSY.takes(99899, "read", 0, 99999).tells(99999, "unit", 0, 4).takes(99899, "read", 0, 99999);
        BUSY.fails(IAE, "read", 0, 100000).fails(IAE, "read", 0, GREATEST_INT);
        BUSY.then("read", 0, 99999).fails(IAE, "read", 0, 100000).fails(IAE, "read", 0, 99998);
    }

    /** "a meter whose reading is from 0 to 99999, 0 at first" */
    static void promise05_read_0OfANewMeterIsTaken_minus1IsNot() {
        BUSY.takes(0, "read", 1, 0);
        BUSY.fails(IAE, "read", 1, -1);
    }

    static void promise05_read_noUnitIsToldAheadOfTheReading() {
        BUSY.fails(IOOBE, "read", -1, -1).fails(IOOBE, "read", 5, 100000);
    }

    /** "Its use is its reading minus its billed reading"; "Returns its use then." */
    static void promise05_read_theUseIs0BehindABill_and1AtTheNextReading() {
        Scene billed = READY.then("book", 4, 0, 2, 5, false);
        billed.takes(0, "read", 0, 130).tells(0, "unit", 0, 5);
        billed.takes(1, "read", 0, 131).tells(1, "unit", 0, 5).takes(2, "read", 0, 132);
    }

    /** "if there is no such unit" */
    static void promise06_unit_units0And4AreThere_unitsMinus1And5AreNot() {
        BUSY.onlyTells(100, "unit", 0, 2).onlyTells(60, "unit", 4, 2);
        BUSY.fails(IOOBE, "unit", -1, 2).fails(IOOBE, "unit", 5, 2);
        BUSY.fails(IOOBE, "unit", LEAST_INT, 2).fails(IOOBE, "unit", GREATEST_INT, 2);
        EMPTY.fails(IOOBE, "unit", 0, 2);
        FULL.tells(21, "unit", 11, 2).fails(IOOBE, "unit", 12, 2);
    }

    /** "if what is not from 0 to 8" */
    static void promise06_unit_what0And8AreTold_whatMinus1And9AreNot() {
        int[] due = {1, 2, 100, 0, 7, 7, -487, 0, 487};
        for (int what = 0; what < due.length; what++) {
            BUSY.tells(due[what], "unit", 3, what);
        }
        BUSY.onlyTells(1, "unit", 3, 0).onlyTells(487, "unit", 3, 8);
        BUSY.fails(IAE, "unit", 3, -1).fails(IAE, "unit", 3, 9);
        BUSY.fails(IAE, "unit", 3, LEAST_INT).fails(IAE, "unit", 3, GREATEST_INT);
    }

    static void promise06_unit_noUnitIsToldAheadOfWhat() {
        BUSY.fails(IOOBE, "unit", -1, -1).fails(IOOBE, "unit", 5, 9);
    }

    static void promise06_unit_theGreatestAndTheLeastAccountAreTold() {
        ALMOST_RICHEST.then("pay", 0, 9).tells(99999999, "unit", 0, 6).tells(99999999, "unit", 0, 7);
        ALMOST_POOREST.then("book", 1, 0, 1, 38, false).tells(-99999999, "unit", 1, 6).tells(100, "unit", 1, 7)
                .tells(100000099, "unit", 1, 8);
    }

    /** "if the owner is out of range" */
    static void promise07_owned_owners0And7AreThere_ownersMinus1And8AreNot() {
        BUSY.onlyTells(-933, "owned", 0).onlyTells(0, "owned", 7);
        BUSY.then("setOwner", 2, 7).tells(-334, "owned", 7);
        BUSY.fails(IAE, "owned", -1).fails(IAE, "owned", 8);
        BUSY.fails(IAE, "owned", LEAST_INT).fails(IAE, "owned", GREATEST_INT);
    }

    /** "Returns the sum, 0 without units." */
    static void promise07_owned_0WithoutUnits() {
        EMPTY.tells(0, "owned", 0).tells(0, "owned", 7);
        BUSY.tells(0, "owned", 5);
        BUSY.then("setOwner", 4, 5).tells(-250, "owned", 5).tells(0, "owned", 3);
    }

    static void promise07_owned_allUnitsOfOneOwnerAtTheirLimits() {
        Scene paid = ALMOST_ALL_PAID.then("pay", 0, 9).then("pay", 10, 90);
        Scene charged = ALMOST_ALL_CHARGED.then("book", 3, 0, 0, 99, false);
        for (int unit = 0; unit < 12; unit++) {
            paid = paid.then("setOwner", unit, 5);
            charged = charged.then("setOwner", unit, 5);
        }
        paid.tells(999999999, "owned", 5);
        charged.tells(-999999999, "owned", 5);
    }

    /** "if there are no units" */
    static void promise08_debtor_noUnitIsNone_theOnlyUnitIsIt() {
        EMPTY.fails(NSEE, "debtor");
        withShares(7).onlyTells(0, "debtor");
        withShares(7).then("pay", 0, 100).tells(0, "debtor");
    }

    /** "the unit with the least account, of several the lowest one" */
    static void promise08_debtor_ofTheSameAccountsTheLowest_aCentLessTellsTheHigher() {
        Scene three = withShares(1, 1, 1);
        three.tells(0, "debtor");
        three.then("pay", 0, 1).tells(1, "debtor").then("pay", 2, 1).tells(1, "debtor").then("pay", 1, 2)
                .tells(0, "debtor");
        three.then("pay", 0, 1).then("pay", 1, 1).tells(2, "debtor");
        BUSY.onlyTells(3, "debtor");
    }

    static void promise08_debtor_theLastOf12Units() {
        Scene scene = withEqualUnits(12).then("book", 3, 0, 0, 12, false);
        scene.tells(0, "debtor");
        for (int unit = 0; unit < 11; unit++) {
            scene = scene.then("pay", unit, 1);
        }
        scene.tells(11, "debtor");
    }

    static void promise08_debtor_theGreatestAndTheLeastAccount() {
        ALMOST_RICHEST.then("pay", 0, 9).tells(1, "debtor");
        ALMOST_POOREST.then("book", 1, 0, 1, 38, false).tells(0, "debtor").then("pay", 0, 1).tells(1, "debtor");
    }

    /** "if there is no such house" */
    static void promise09_shares_houses0And2AreThere_housesMinus1And3AreNot() {
        BUSY.onlyTells(360, "shares", 0, -1).onlyTells(0, "shares", 2, -1).tells(140, "shares", 1, -1);
        BUSY.then("addUnit", 2, 0, 9, 0).tells(9, "shares", 2, -1);
        BUSY.fails(IAE, "shares", -1, -1).fails(IAE, "shares", 3, -1).fails(IAE, "shares", -1, 0);
        BUSY.fails(IAE, "shares", LEAST_INT, 0).fails(IAE, "shares", GREATEST_INT, 0);
    }

    /** "or stair is neither -1 nor a stair" */
    static void promise09_shares_stairsMinus1And2AreThere_stairsMinus2And3AreNot() {
        BUSY.tells(140, "shares", 1, -1).tells(40, "shares", 1, 0).tells(0, "shares", 1, 1).tells(100, "shares", 1, 2);
        BUSY.fails(IAE, "shares", 1, -2).fails(IAE, "shares", 1, 3);
        BUSY.fails(IAE, "shares", 1, LEAST_INT).fails(IAE, "shares", 1, GREATEST_INT);
    }

    static void promise09_shares_0WithoutUnits() {
        for (int house = 0; house <= 2; house++) {
            for (int stair = -1; stair <= 2; stair++) {
                EMPTY.tells(0, "shares", house, stair);
            }
        }
    }

    static void promise09_shares_theMostThatAHouseCanHave() {
        Scene scene = EMPTY;
        for (int unit = 0; unit < 12; unit++) {
            scene = scene.then("addUnit", 2, unit == 11 ? 2 : 1, 300, 0);
        }
        scene.tells(3600, "shares", 2, -1).tells(3300, "shares", 2, 1).tells(300, "shares", 2, 2);
        scene.tells(0, "shares", 1, 2).tells(0, "shares", 2, 0);
    }
}
