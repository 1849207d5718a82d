/** Edges of the promises 10 to 17. */
final class CostsEdges extends Edges {

    /** "if there is no such unit" */
    static void promise10_pay_units0And4AreThere_unitsMinus1And5AreNot() {
        BUSY.takes(-445, "pay", 0, 1).tells(251, "unit", 0, 7).tells(1000, "unit", 1, 7);
        BUSY.takes(-249, "pay", 4, 1).tells(1, "unit", 4, 7).tells(0, "unit", 3, 7);
        BUSY.fails(IOOBE, "pay", -1, 1).fails(IOOBE, "pay", 5, 1);
        BUSY.fails(IOOBE, "pay", LEAST_INT, 1).fails(IOOBE, "pay", GREATEST_INT, 1);
        EMPTY.fails(IOOBE, "pay", 0, 1);
        withEqualUnits(12).takes(1, "pay", 11, 1).fails(IOOBE, "pay", 12, 1);
    }

    /** "the amount, 1 to 9999999" */
    static void promise10_pay_amounts1And9999999AreTaken_0And10000000AreNot() {
        BUSY.takes(-249, "pay", 4, 1);
        BUSY.takes(9999749, "pay", 4, MOST).tells(MOST, "unit", 4, 7);
        BUSY.refuses(2, "pay", 4, 0).refuses(2, "pay", 4, 10000000);
        BUSY.refuses(2, "pay", 4, -1).refuses(2, "pay", 4, LEAST_INT).refuses(2, "pay", 4, GREATEST_INT);
    }

    static void promise10_pay_noUnitIsToldAheadOfTheAmount() {
        BUSY.fails(IOOBE, "pay", -1, 0).fails(IOOBE, "pay", 5, 10000000);
    }

    /** "Returns its account then." */
    static void promise10_pay_theAccountIs0WhenAllIsPaid() {
        BUSY.takes(-1, "pay", 3, 486).takes(0, "pay", 3, 1).takes(1, "pay", 3, 1);
    }

    /** "if the kind ... is not from 0 to 4" */
    static void promise11_book_kinds0And4AreTaken_kindsMinus1And5AreNot() {
        BUSY.takes(0, "book", 0, 0, 0, 9, false).tells(0, "cost", 3, 0);
        BUSY.takes(0, "book", 4, 0, 0, 9, false).tells(4, "cost", 3, 0);
        BUSY.fails(IAE, "book", -1, 0, 0, 9, false).fails(IAE, "book", 5, 0, 0, 9, false);
        BUSY.fails(IAE, "book", LEAST_INT, 0, 0, 9, true).fails(IAE, "book", GREATEST_INT, 0, 0, 9, true);
    }

    /** "or the purpose is not from 0 to 4" */
    static void promise11_book_purposes0And4AreTaken_purposesMinus1And5AreNot() {
        BUSY.takes(9, "book", 0, 0, 0, 9, true).tells(0, "cost", 3, 2).tells(1251, "balance", 0);
        BUSY.then("fund", 4, 8).takes(8, "book", 0, 0, 4, 9, true).tells(4, "cost", 3, 2).tells(0, "balance", 4);
        BUSY.fails(IAE, "book", 0, 0, -1, 9, false).fails(IAE, "book", 0, 0, 5, 9, false);
        BUSY.fails(IAE, "book", 0, 0, -1, 9, true).fails(IAE, "book", 0, 0, 5, 9, true);
        BUSY.fails(IAE, "book", 0, 0, LEAST_INT, 9, true).fails(IAE, "book", 0, 0, GREATEST_INT, 9, true);
    }

    /** "or the place does not fit the kind": each other kind's places, too. */
    static void promise11_book_thePlaceFitsItsOwnKindOnly() {
        BUSY.takes(0, "book", 1, 1, 1, 9, false).fails(IAE, "book", 0, 1, 1, 9, false)
                .fails(IAE, "book", 3, 1, 1, 9, false).fails(IAE, "book", 4, 1, 1, 9, false);
        BUSY.takes(0, "book", 2, 5, 1, 9, false).fails(IAE, "book", 1, 5, 1, 9, false);
        BUSY.fails(IAE, "book", 1, 3, 1, 9, false).fails(IAE, "book", 2, 9, 1, 9, false);
        BUSY.fails(IAE, "book", 1, -1, 1, 9, false).fails(IAE, "book", 2, -1, 1, 9, false);
    }

    /** "refused for reason 1": "there is no unit that it concerns" */
    static void promise11_book_withoutAnyUnit_noKindIsTaken() {
        for (int kind = 0; kind <= 4; kind++) {
            EMPTY.refuses(1, "book", kind, 0, 0, 9, false);
            withShares(1).takes(0, "book", kind, 0, 0, 9, false);
        }
    }

    static void promise11_book_aHouseWithoutUnitsIsNotTaken_withOneItIs() {
        BUSY.refuses(1, "book", 1, 2, 0, 9, false).refuses(1, "book", 1, 2, 0, 9, true);
        BUSY.then("addUnit", 2, 1, 1, 0).takes(0, "book", 1, 2, 0, 9, false).tells(1, "cost", 3, 5);
    }

    static void promise11_book_aStairWithoutUnitsIsNotTaken_withOneItIs() {
        BUSY.refuses(1, "book", 2, 4, 0, 9, false).refuses(1, "book", 2, 4, 0, 9, true);
        BUSY.then("addUnit", 1, 1, 1, 0).takes(0, "book", 2, 4, 0, 9, false).tells(9, "part", 3, 5);
    }

    /** "Reason 1 applies also to a cost that its fund would pay wholly." */
    static void promise11_book_reason1AppliesAlsoToACostThatItsFundWouldPay() {
        BUSY.refuses(1, "book", 2, 8, 0, 1260, true).takes(1260, "book", 2, 5, 0, 1260, true);
    }

    /** "an amount from 1 to 9999999" */
    static void promise11_book_amounts1And9999999AreTaken_0And10000000AreNot() {
        BUSY.takes(0, "book", 0, 0, 1, 1, false).tells(1, "cost", 3, 3);
        BUSY.takes(0, "book", 0, 0, 1, MOST, false).tells(MOST, "cost", 3, 3);
        BUSY.refuses(2, "book", 0, 0, 1, 0, false).refuses(2, "book", 0, 0, 1, 10000000, false);
        BUSY.refuses(2, "book", 4, 0, 0, 0, true).refuses(2, "book", 4, 0, 0, 10000000, true);
        BUSY.refuses(2, "book", 3, 0, 1, -1, false).refuses(2, "book", 1, 1, 0, -1, true);
        BUSY.refuses(2, "book", 0, 0, 1, LEAST_INT, true).refuses(2, "book", 0, 0, 1, GREATEST_INT, true);
    }

    static void promise11_book_outOfRangeIsToldAheadOfTheReasons() {
        EMPTY.fails(IAE, "book", 5, 0, 0, 0, false).fails(IAE, "book", 0, 1, 0, 0, false);
        EMPTY.fails(IAE, "book", 0, 0, 5, 0, false);
        BUSY.fails(IAE, "book", 1, 3, 0, 0, false).fails(IAE, "book", 1, 2, 5, 0, false);
    }

    /** "Returns the amount that its fund pays." */
    static void promise11_book_answersWhatItsFundPays_0WithoutIt() {
        BUSY.takes(0, "book", 0, 0, 0, 1260, false).tells(0, "cost", 3, 4).tells(1260, "balance", 0);
        BUSY.takes(1259, "book", 0, 0, 0, 1259, true).tells(1, "balance", 0).tells(1259, "cost", 3, 4);
        BUSY.takes(1260, "book", 0, 0, 0, 1260, true).tells(0, "balance", 0).tells(2599, "account", 9);
        BUSY.takes(1260, "book", 0, 0, 0, 1261, true).tells(0, "balance", 0).tells(2600, "account", 9);
    }

    /** "if there is no such cost" */
    static void promise12_cost_costs0And2AreThere_costsMinus1And3AreNot() {
        BUSY.onlyTells(700, "cost", 0, 3).onlyTells(40, "cost", 2, 3);
        BUSY.fails(IOOBE, "cost", -1, 3).fails(IOOBE, "cost", 3, 3);
        BUSY.fails(IOOBE, "cost", LEAST_INT, 3).fails(IOOBE, "cost", GREATEST_INT, 3);
        EMPTY.fails(IOOBE, "cost", 0, 0);
        FULL.tells(1019, "cost", 19, 3).fails(IOOBE, "cost", 20, 3);
    }

    /** "if what is not from 0 to 5" */
    static void promise12_cost_what0And5AreTold_whatMinus1And6AreNot() {
        int[] due = {1, 1, 2, 99, 0, 2};
        int[] dueOfFunded = {0, 0, 0, 40, 40, 5};
        for (int what = 0; what <= 5; what++) {
            BUSY.tells(due[what], "cost", 1, what).tells(dueOfFunded[what], "cost", 2, what);
        }
        BUSY.onlyTells(1, "cost", 1, 0).onlyTells(2, "cost", 1, 5);
        BUSY.fails(IAE, "cost", 1, -1).fails(IAE, "cost", 1, 6);
        BUSY.fails(IAE, "cost", 1, LEAST_INT).fails(IAE, "cost", 1, GREATEST_INT);
    }

    static void promise12_cost_noCostIsToldAheadOfWhat() {
        BUSY.fails(IOOBE, "cost", -1, -1).fails(IOOBE, "cost", 3, 6);
    }

    /** "The units that a cost concerned are told also if its fund paid all of it." */
    static void promise12_cost_theUnitsThatItConcernedAreToldAlsoIfItsFundPaidAll() {
        BUSY.then("book", 1, 0, 0, 1260, true).tells(3, "cost", 3, 5).tells(1260, "cost", 3, 4);
        BUSY.then("book", 4, 0, 3, 500, true).tells(5, "cost", 3, 5).tells(500, "cost", 3, 4);
        BUSY.then("book", 2, 5, 3, 1, true).tells(1, "cost", 3, 5);
    }

    static void promise12_cost_theUnitsThatItConcernedAreThoseOfThen() {
        withEqualUnits(11).then("book", 3, 0, 0, 5, false).then("addUnit", 0, 0, 1, 0)
                .then("book", 3, 0, 0, 5, false).tells(11, "cost", 0, 5).tells(12, "cost", 1, 5);
    }

    /** "if there is no such cost" */
    static void promise13_part_costs0And2AreThere_costsMinus1And3AreNot() {
        BUSY.onlyTells(336, "part", 0, 0).onlyTells(0, "part", 2, 0);
        BUSY.fails(IOOBE, "part", -1, 0).fails(IOOBE, "part", 3, 0);
        BUSY.fails(IOOBE, "part", LEAST_INT, 0).fails(IOOBE, "part", GREATEST_INT, 0);
        withShares(1).fails(IOOBE, "part", 0, 0);
    }

    /** "or unit" */
    static void promise13_part_units0And4AreThere_unitsMinus1And5AreNot() {
        parts(BUSY, 0, 336, 112, 162, 56, 34);
        BUSY.onlyTells(34, "part", 0, 4);
        BUSY.fails(IOOBE, "part", 0, -1).fails(IOOBE, "part", 0, 5).fails(IOOBE, "part", 2, 5);
        BUSY.fails(IOOBE, "part", 0, LEAST_INT).fails(IOOBE, "part", 0, GREATEST_INT);
        BUSY.fails(IOOBE, "part", 3, 5).fails(IOOBE, "part", -1, -1);
        FULL.tells(115, "part", 19, 11).fails(IOOBE, "part", 19, 12).fails(IOOBE, "part", 20, 11);
    }

    /** "0 if it does not concern it" */
    static void promise13_part_0IfItDoesNotConcernIt() {
        parts(BUSY, 1, 0, 0, 28, 71, 0);
        parts(BUSY.then("book", 2, 1, 1, 26, false), 3, 0, 20, 0, 0, 6);
    }

    /** "The part of a unit that came later is 0." */
    static void promise13_part_0OfAUnitThatCameLater() {
        Scene later = BUSY.then("addUnit", 1, 0, 300, 0);
        later.tells(0, "part", 0, 5).tells(0, "part", 1, 5).fails(IOOBE, "part", 0, 6);
        Scene again = withShares(1, 1).then("book", 3, 0, 0, 8, false).then("undo").then("undo")
                .then("book", 3, 0, 0, 6, false).then("addUnit", 0, 0, 1, 0);
        parts(again, 0, 6, 0);
    }

    static void promise13_part_theNumbersOfThePartsDecreaseWithTheCosts() {
        Scene scene = withShares(1, 1);
        for (int i = 0; i <= 20; i++) {
            scene = scene.then("book", 3, 0, 0, 2 * i + 1, false);
        }
        for (int cost = 0; cost <= 19; cost++) {
            parts(scene, cost, cost + 2, cost + 1);
        }
    }

    /** "if there is no such unit" */
    static void promise14_wouldPay_units0And4AreThere_unitsMinus1And5AreNot() {
        BUSY.onlyTells(200, "wouldPay", 0, 0, 1000, 0).onlyTells(120, "wouldPay", 0, 0, 1000, 4);
        BUSY.fails(IOOBE, "wouldPay", 0, 0, 1000, -1).fails(IOOBE, "wouldPay", 0, 0, 1000, 5);
        BUSY.fails(IOOBE, "wouldPay", 0, 0, 1000, LEAST_INT).fails(IOOBE, "wouldPay", 0, 0, 1000, GREATEST_INT);
        EMPTY.fails(IOOBE, "wouldPay", 0, 0, 1000, 0);
        FULL.tells(1, "wouldPay", 3, 0, 12, 11).fails(IOOBE, "wouldPay", 3, 0, 12, 12);
    }

    /** "if the kind is not from 0 to 4" */
    static void promise14_wouldPay_kinds0And4AreTold_kindsMinus1And5AreNot() {
        BUSY.onlyTells(20, "wouldPay", 0, 0, 100, 0).onlyTells(9 + 35, "wouldPay", 4, 0, 100, 0);
        BUSY.fails(IAE, "wouldPay", -1, 0, 100, 0).fails(IAE, "wouldPay", 5, 0, 100, 0);
        BUSY.fails(IAE, "wouldPay", LEAST_INT, 0, 100, 0).fails(IAE, "wouldPay", GREATEST_INT, 0, 100, 0);
    }

    /** "the place does not fit the kind" */
    static void promise14_wouldPay_thePlaceFitsItsOwnKindOnly() {
        BUSY.tells(0, "wouldPay", 1, 1, 100, 0).tells(29, "wouldPay", 1, 1, 100, 2);
        BUSY.fails(IAE, "wouldPay", 1, -1, 100, 0).fails(IAE, "wouldPay", 1, 3, 100, 0);
        BUSY.tells(100, "wouldPay", 2, 0, 100, 0).tells(100, "wouldPay", 2, 5, 100, 3);
        BUSY.fails(IAE, "wouldPay", 2, -1, 100, 0).fails(IAE, "wouldPay", 2, 9, 100, 0);
        BUSY.fails(IAE, "wouldPay", 0, 1, 100, 0).fails(IAE, "wouldPay", 3, 1, 100, 0)
                .fails(IAE, "wouldPay", 4, 1, 100, 0);
    }

    /** "or the amount is out of range": "the amount, 1 to 9999999" */
    static void promise14_wouldPay_amounts1And9999999AreTold_0And10000000AreNot() {
        BUSY.tells(1, "wouldPay", 3, 0, 1, 0).tells(0, "wouldPay", 3, 0, 1, 1);
        BUSY.onlyTells(2000000, "wouldPay", 3, 0, MOST, 3).onlyTells(1999999, "wouldPay", 3, 0, MOST, 4);
        BUSY.fails(IAE, "wouldPay", 3, 0, 0, 0).fails(IAE, "wouldPay", 3, 0, 10000000, 0);
        BUSY.fails(IAE, "wouldPay", 3, 0, -1, 0);
        BUSY.fails(IAE, "wouldPay", 3, 0, LEAST_INT, 0).fails(IAE, "wouldPay", 3, 0, GREATEST_INT, 0);
    }

    /** "if there is no unit that it concerns" */
    static void promise14_wouldPay_aHouseOrStairWithoutUnitsIsNotTold_withOneItIs() {
        BUSY.fails(NSEE, "wouldPay", 1, 2, 100, 0).fails(NSEE, "wouldPay", 2, 4, 100, 0)
                .fails(NSEE, "wouldPay", 2, 2, 100, 0);
        BUSY.then("addUnit", 2, 1, 1, 0).tells(100, "wouldPay", 1, 2, 100, 5).tells(0, "wouldPay", 1, 2, 100, 0);
        BUSY.then("addUnit", 1, 1, 1, 0).tells(100, "wouldPay", 2, 4, 100, 5).tells(0, "wouldPay", 2, 4, 100, 0);
    }

    static void promise14_wouldPay_noUnitAheadOfOutOfRange_aheadOfNoUnitThatItConcerns() {
        BUSY.fails(IOOBE, "wouldPay", 5, 0, 100, 5).fails(IOOBE, "wouldPay", 1, 3, 100, -1)
                .fails(IOOBE, "wouldPay", 0, 0, 0, 5).fails(IOOBE, "wouldPay", 1, 2, 100, 5);
        BUSY.fails(IAE, "wouldPay", 1, 2, 0, 0).fails(IAE, "wouldPay", 1, 2, 10000000, 0)
                .fails(IAE, "wouldPay", 2, 4, 0, 0);
        EMPTY.fails(IOOBE, "wouldPay", 1, 2, 0, 0);
    }

    /** "now, if it was divided without a fund" */
    static void promise14_wouldPay_noFundPays_noMeterIsBilled_nothingIsRefused() {
        BUSY.onlyTells(252, "wouldPay", 0, 0, 1260, 0).tells(1260, "balance", 0).tells(30, "unit", 0, 5);
        BUSY.then("wouldPay", 4, 0, 100, 0).tells(9 + 35, "wouldPay", 4, 0, 100, 0).tells(30, "unit", 0, 5);
        EMPTY.then("addUnit", 0, 0, 1, 0).then("wouldPay", 0, 0, 0, 0).tells(NSEE.getName(), "refusal");
    }

    /** "if there is no such purpose" */
    static void promise15_fund_purposes0And4AreTaken_purposesMinus1And5AreNot() {
        BUSY.takes(1265, "fund", 0, 5).tells(1265, "balance", 0).tells(500, "balance", 3);
        BUSY.takes(5, "fund", 4, 5).tells(5, "balance", 4).tells(1260, "balance", 0);
        BUSY.fails(IAE, "fund", -1, 5).fails(IAE, "fund", 5, 5);
        BUSY.fails(IAE, "fund", LEAST_INT, 5).fails(IAE, "fund", GREATEST_INT, 5);
    }

    /** "refused for reason 1" */
    static void promise15_fund_withoutUnitsIsNotTaken_withOneItIs() {
        EMPTY.refuses(1, "fund", 0, 5);
        withShares(1).takes(5, "fund", 0, 5).tells(-5, "unit", 0, 6);
    }

    /** "2, the amount is not from 1 to 9999999" */
    static void promise15_fund_amounts1And9999999AreTaken_0And10000000AreNot() {
        BUSY.takes(1, "fund", 1, 1).tells(2600, "account", 9);
        BUSY.takes(MOST, "fund", 1, MOST).tells(2599 + MOST, "account", 9);
        BUSY.refuses(2, "fund", 1, 0).refuses(2, "fund", 1, 10000000);
        BUSY.refuses(2, "fund", 1, -1).refuses(2, "fund", 1, LEAST_INT).refuses(2, "fund", 1, GREATEST_INT);
    }

    static void promise15_fund_noPurposeIsToldAheadOfTheReasons() {
        EMPTY.fails(IAE, "fund", 5, 5).fails(IAE, "fund", -1, 0);
        BUSY.fails(IAE, "fund", 5, 0);
    }

    /** "from all units, divided by shares"; it is no cost */
    static void promise15_fund_makesNoCost() {
        BUSY.takes(1, "fund", 1, 1).tells(3, "account", 3).tells(833, "unit", 1, 8).tells(696, "unit", 0, 8);
        FULL.then("fund", 1, 1).tells(20, "account", 3).tells(1000, "cost", 0, 3);
    }

    /** "if there is no such purpose" */
    static void promise16_balance_purposes0And4AreTold_purposesMinus1And5AreNot() {
        BUSY.onlyTells(1260, "balance", 0).onlyTells(0, "balance", 4).tells(500, "balance", 3);
        BUSY.then("fund", 4, 5).tells(5, "balance", 4);
        BUSY.fails(IAE, "balance", -1).fails(IAE, "balance", 5);
        BUSY.fails(IAE, "balance", LEAST_INT).fails(IAE, "balance", GREATEST_INT);
        EMPTY.tells(0, "balance", 0).fails(IAE, "balance", 5);
    }

    static void promise16_balance_from0To99999999() {
        ALMOST_FULL_FUND.tells(99999990, "balance", 1).then("fund", 1, 9).tells(99999999, "balance", 1)
                .tells(0, "balance", 0);
        BUSY.then("book", 0, 0, 3, 500, true).tells(0, "balance", 3);
    }

    /** "if none was refused" */
    static void promise17_refusal_noneIsKeptAtFirst_norBehindOtherExceptions() {
        EMPTY.fails(NSEE, "refusal");
        EMPTY.then("addUnit", 3, 0, 1, 0).then("pay", 0, 0).then("fund", 5, 0).then("bookAll").then("undo")
                .then("restore").then("debtor").tells(NSEE.getName(), "refusal");
        withShares(1).then("wouldPay", 1, 2, 5, 0).then("pay", 0, 1).then("vote", 0, 0, 2)
                .tells(NSEE.getName(), "refusal");
    }

    /** "Returns the reason, 1 to 5." */
    static void promise17_refusal_eachReasonOfEachCallIsKept() {
        EMPTY.then("book", 0, 0, 0, 1, false).tells(1, "refusal");
        EMPTY.then("fund", 0, 1).tells(1, "refusal");
        EMPTY.then("move", 0, 0, 0, 1).tells(1, "refusal");
        EMPTY.writeAndBook("a:0=1.00").tells(1, "refusal");
        Scene one = withShares(1);
        one.then("pay", 0, 0).tells(2, "refusal");
        one.then("book", 0, 0, 0, 0, false).tells(2, "refusal");
        one.then("fund", 0, 0).tells(2, "refusal");
        one.then("move", 0, 0, 0, 0).tells(2, "refusal");
        one.writeAndBook("a:0=0.00").tells(2, "refusal");
        one.then("vote", 0, 0, 1).tells(3, "refusal");
        EMPTY.then("close", 0).tells(3, "refusal");
        FULL.then("move", 0, 0, 0, 1).tells(4, "refusal");
        ALMOST_RICHEST.then("pay", 0, 10).tells(5, "refusal");
        ALMOST_POOREST.then("book", 1, 0, 1, 39, false).tells(5, "refusal");
        ALMOST_POOREST.writeAndBook("h0:1=0.39").tells(5, "refusal");
        ALMOST_FULL_FUND.then("fund", 1, 10).tells(5, "refusal");
        ALMOST_FULL_FUND.then("move", 0, 0, 1, 10).then("vote", 0, 0, 1).then("vote", 0, 1, 1).then("close", 0)
                .tells(5, "refusal");
    }

    /** "the latest call or cost that was refused" */
    static void promise17_refusal_theLatestOneIsKept_alsoBehindSuccessAndOtherExceptions() {
        READY.onlyTells(3, "refusal");
        READY.then("pay", 0, 0).tells(2, "refusal").then("book", 1, 2, 0, 1, false).tells(1, "refusal")
                .then("close", 0).tells(3, "refusal");
        READY.then("pay", 0, 1).then("pay", 9, 0).then("set", 5, 5).writeAndBook("a:0=1.00").writeAndBook("x")
                .then("undo").tells(3, "refusal");
        READY.writeAndBook("a:0=1.00;a:0=0.00;h2:0=1.00").tells(2, "refusal");
    }
}
