/** Edges of the terms on reasons: their order, and what reason 5 still allows. */
final class ReasonsEdges extends Edges {
    private static final Scene POOREST = ALMOST_POOREST.then("book", 1, 0, 1, 38, false);
    private static final Scene ALL_CHARGED = ALMOST_ALL_CHARGED.then("book", 3, 0, 0, 99, false);
    private static final Scene FULL_FUND = ALMOST_FULL_FUND.then("fund", 1, 9);

    /** "the first of these reasons that applies: 1 ...; 2 ..." */
    static void terms_reasons_1IsToldAheadOf2() {
        EMPTY.refuses(1, "book", 0, 0, 0, 0, false).refuses(1, "fund", 0, 0).refuses(1, "move", 0, 0, 0, 0);
        BUSY.refuses(1, "book", 1, 2, 0, 10000000, true).refuses(1, "move", 2, 8, 0, 10000000);
        READY.refusesText(1, "h2:0=0.00");
    }

    static void terms_reasons_1IsToldAheadOf4() {
        FULL.refuses(1, "move", 1, 2, 0, 1).refuses(1, "move", 2, 6, 0, 0);
    }

    static void terms_reasons_1IsToldAheadOf5() {
        ALL_CHARGED.refuses(1, "book", 1, 2, 0, MOST, false).refusesText(1, "s22:0=99999.99");
        POOREST.refuses(1, "book", 2, 2, 0, MOST, false);
    }

    static void terms_reasons_2IsToldAheadOf4() {
        FULL.refuses(2, "move", 0, 0, 0, 0).refuses(2, "move", 0, 0, 0, 10000000);
    }

    static void terms_reasons_2IsToldAheadOf5() {
        ALMOST_RICHEST.refuses(2, "pay", 0, 10000000);
        POOREST.refuses(2, "book", 1, 0, 1, 10000000, false).refuses(2, "fund", 1, 10000000);
        FULL_FUND.refuses(2, "fund", 1, 10000000).refuses(2, "fund", 1, 0);
        ALL_CHARGED.refuses(2, "fund", 0, 10000000).refusesText(2, "a:0=0.00");
    }

    static void terms_reasons_3IsToldAheadOf5() {
        Scene closed = withMotions(ALMOST_FULL_FUND, 0, 0, 1, 9, 1).then("close", 0).tells(99999999, "balance", 1);
        closed.refuses(3, "close", 0).refuses(5, "close", 1);
    }

    /** "an account would be ... above 99999999" */
    static void terms_reasons_5OfPay_anAccountOf99999999IsTaken_aCentMoreIsNot() {
        ALMOST_RICHEST.takes(99999999, "pay", 0, 9).refuses(5, "pay", 0, 1).refuses(5, "pay", 0, MOST);
        ALMOST_RICHEST.refuses(5, "pay", 0, 10).refuses(5, "pay", 0, MOST).takes(MOST, "pay", 1, MOST);
    }

    static void terms_reasons_5OfPay_whatWasChargedMakesRoom() {
        Scene charged = ALMOST_RICHEST.then("book", 0, 0, 0, 20, false);
        charged.takes(99999999, "pay", 0, 19).refuses(5, "pay", 0, 1);
        charged.refuses(5, "pay", 0, 20);
    }

    /** "or all that units have paid ... together above 999999999" */
    static void terms_reasons_5OfPay_999999999InAllAreTaken_aCentMoreIsNot() {
        ALMOST_ALL_PAID.takes(99, "pay", 11, 99).tells(999999999, "account", 8).refuses(5, "pay", 10, 1)
                .refuses(5, "pay", 0, 1);
        ALMOST_ALL_PAID.refuses(5, "pay", 11, 100).refuses(5, "pay", 10, MOST);
    }

    /** What was charged makes room on the accounts, but not in what was paid in all. */
    static void terms_reasons_5OfPay_chargesMakeNoRoomInWhatWasPaid() {
        Scene charged = ALMOST_ALL_PAID.then("book", 3, 0, 0, 1200, false);
        charged.takes(-1, "pay", 11, 99).refuses(5, "pay", 11, 1);
        charged.refuses(5, "pay", 11, 100);
    }

    /** "an account would be below -99999999" */
    static void terms_reasons_5OfBook_anAccountOfMinus99999999IsTaken_aCentLessIsNot() {
        ALMOST_POOREST.takes(0, "book", 1, 0, 1, 38, false).tells(-99999999, "unit", 0, 6)
                .tells(-99999999, "unit", 1, 6).refuses(5, "book", 1, 0, 1, 1, false).refuses(5, "book", 0, 0, 1, 1, false);
        ALMOST_POOREST.refuses(5, "book", 1, 0, 1, 39, false).refuses(5, "book", 1, 0, 1, 40, false);
        ALMOST_POOREST.refuses(5, "book", 1, 0, 1, MOST, false);
    }

    static void terms_reasons_5OfBook_oneUnitIsEnough_inEveryKind() {
        ALMOST_POOREST.takes(0, "book", 2, 1, 1, 19, false).tells(-99999999, "unit", 1, 6);
        ALMOST_POOREST.refuses(5, "book", 2, 1, 1, 20, false);
        ALMOST_POOREST.takes(0, "book", 0, 0, 1, 57, false).tells(-99999999, "unit", 0, 6);
        ALMOST_POOREST.refuses(5, "book", 0, 0, 1, 58, false);
        ALMOST_POOREST.takes(0, "book", 3, 0, 1, 57, false).tells(-99999999, "unit", 1, 6);
        ALMOST_POOREST.refuses(5, "book", 3, 0, 1, 58, false);
        ALMOST_POOREST.takes(0, "book", 4, 0, 1, 55, false).tells(-99999999, "unit", 0, 6);
        ALMOST_POOREST.refuses(5, "book", 4, 0, 1, 56, false);
        POOREST.then("pay", 0, 5).refuses(5, "book", 1, 0, 1, 2, false).takes(0, "book", 1, 0, 1, 1, false);
    }

    static void terms_reasons_5OfBook_unitsThatItDoesNotConcernDoNotMatter() {
        POOREST.takes(0, "book", 1, 1, 1, MOST, false).tells(-10000099, "unit", 2, 6);
        POOREST.takes(0, "book", 2, 3, 1, MOST, false);
    }

    /** "or have been charged, together above 999999999" */
    static void terms_reasons_5OfBook_999999999ChargedInAllAreTaken_aCentMoreIsNot() {
        ALMOST_ALL_CHARGED.takes(0, "book", 3, 0, 0, 99, false).tells(999999999, "account", 9)
                .refuses(5, "book", 0, 0, 0, 1, false);
        ALMOST_ALL_CHARGED.refuses(5, "book", 3, 0, 0, 100, false).refuses(5, "book", 4, 0, 0, 100, false);
    }

    /** What was paid makes room on the accounts, but not in what was charged in all. */
    static void terms_reasons_5OfBook_paymentsMakeNoRoomInWhatWasCharged() {
        ALL_CHARGED.then("pay", 0, MOST).refuses(5, "book", 0, 0, 0, 1, false);
        POOREST.then("pay", 0, 1).takes(0, "book", 2, 0, 1, 1, false).refuses(5, "book", 2, 0, 1, 1, false);
    }

    /** "Reason 5 applies to what would be behind the call": what a fund pays is charged to nobody. */
    static void terms_reasons_5OfBook_onlyTheRestThatItsFundLeavesMatters() {
        ALMOST_POOREST.takes(300, "book", 1, 0, 0, 338, true).tells(-99999999, "unit", 0, 6);
        ALMOST_POOREST.refuses(5, "book", 1, 0, 0, 339, true).refuses(5, "book", 1, 0, 0, 338, false);
        POOREST.takes(300, "book", 1, 0, 0, 300, true).tells(-99999999, "unit", 0, 6).tells(0, "balance", 0);
        POOREST.refuses(5, "book", 1, 0, 0, 301, true);
        ALMOST_ALL_CHARGED.takes(12, "book", 3, 0, 1, 111, true).tells(999999999, "account", 9);
        ALMOST_ALL_CHARGED.refuses(5, "book", 3, 0, 1, 112, true);
        ALL_CHARGED.takes(12, "book", 3, 0, 1, 12, true).tells(999999999, "account", 9);
        ALL_CHARGED.refuses(5, "book", 3, 0, 1, 13, true);
    }

    static void terms_reasons_5OfFund_anAccountOfMinus99999999IsTaken_aCentLessIsNot() {
        ALMOST_POOREST.takes(57, "fund", 1, 57).tells(-99999999, "unit", 0, 6);
        ALMOST_POOREST.refuses(5, "fund", 1, 58).refuses(5, "fund", 0, MOST);
        POOREST.refuses(5, "fund", 1, 1);
    }

    /** "a fund above 99999999" */
    static void terms_reasons_5OfFund_aFundOf99999999IsTaken_aCentMoreIsNot() {
        ALMOST_FULL_FUND.takes(99999999, "fund", 1, 9).refuses(5, "fund", 1, 1).refuses(5, "fund", 1, MOST);
        ALMOST_FULL_FUND.refuses(5, "fund", 1, 10).takes(10, "fund", 2, 10);
        FULL_FUND.takes(MOST, "fund", 0, MOST).tells(99999999, "balance", 1);
        FULL_FUND.then("book", 0, 0, 1, 5, true).takes(99999999, "fund", 1, 5).refuses(5, "fund", 1, 1);
    }

    static void terms_reasons_5OfFund_999999999ChargedInAllAreTaken_aCentMoreIsNot() {
        ALMOST_ALL_CHARGED.takes(99, "fund", 0, 99).tells(999999999, "account", 9).refuses(5, "fund", 0, 1);
        ALMOST_ALL_CHARGED.refuses(5, "fund", 0, 100);
    }

    /** Motion 0 for the amount and motion 1 for one cent more, both with the vote of unit 0 and a quota of 0. */
    private static Scene withMotions(Scene scene, int kind, int place, int purpose, int amount, int more) {
        return scene.then("move", kind, place, purpose, amount).then("move", kind, place, purpose, amount + more)
                .then("set", 1, 0).then("vote", 0, 0, 1).then("vote", 1, 0, 1);
    }

    private static void firstIsCarriedSecondIsNot(Scene motions) {
        motions.refuses(5, "close", 1).takes(1, "close", 0).tells(1, "motion", 0, 4);
        motions.then("close", 1).tells(0, "motion", 1, 4).tells(2, "account", 5);
    }

    static void terms_reasons_5OfClose_anAccountOfMinus99999999IsTaken_aCentLessIsNot() {
        firstIsCarriedSecondIsNot(withMotions(ALMOST_POOREST, 0, 0, 1, 57, 1));
        firstIsCarriedSecondIsNot(withMotions(ALMOST_POOREST, 1, 0, 1, 38, 1));
        firstIsCarriedSecondIsNot(withMotions(ALMOST_POOREST, 2, 1, 1, 19, 1));
        firstIsCarriedSecondIsNot(withMotions(ALMOST_POOREST, 3, 0, 1, 57, 1));
        withMotions(POOREST, 1, 1, 1, MOST, 0).takes(1, "close", 0).tells(-10000099, "unit", 2, 6);
    }

    static void terms_reasons_5OfClose_aFundOf99999999IsTaken_aCentMoreIsNot() {
        firstIsCarriedSecondIsNot(withMotions(ALMOST_FULL_FUND, 0, 0, 1, 9, 1));
        firstIsCarriedSecondIsNot(withMotions(ALMOST_FULL_FUND, 3, 0, 1, 9, 1));
        withMotions(ALMOST_FULL_FUND, 0, 0, 1, 9, 1).then("close", 0).tells(99999999, "balance", 1).refuses(5, "close", 1);
        withMotions(FULL_FUND, 0, 0, 2, 10, 0).takes(1, "close", 0).tells(10, "balance", 2);
    }

    static void terms_reasons_5OfClose_999999999ChargedInAllAreTaken_aCentMoreIsNot() {
        firstIsCarriedSecondIsNot(withMotions(ALMOST_ALL_CHARGED, 3, 0, 0, 99, 1));
        firstIsCarriedSecondIsNot(withMotions(ALMOST_ALL_CHARGED, 0, 0, 0, 99, 1));
    }

    /** "or, if it would be carried, for 5" */
    static void terms_reasons_5OfClose_aMotionThatIsLostIsNotRefused() {
        withMotions(FULL_FUND, 0, 0, 1, 1, 0).refuses(5, "close", 0).then("vote", 0, 0, 0).takes(0, "close", 0)
                .tells(2, "motion", 0, 4);
        withMotions(POOREST, 0, 0, 1, MOST, 0).then("vote", 0, 1, -1).takes(0, "close", 0);
        withMotions(ALL_CHARGED, 0, 0, 0, 1, 0).then("set", 1, 9).takes(0, "close", 0);
    }

    static void terms_reasons_5OfBookAll_anAccountOfMinus99999999IsTaken_aCentLessIsNot() {
        ALMOST_POOREST.books(1, "h0:1=0.38").tells(-99999999, "unit", 1, 6).refusesText(5, "h0:1=0.01");
        ALMOST_POOREST.refusesText(5, "h0:1=0.39");
        ALMOST_POOREST.books(1, "h0:0=3.38f").tells(-99999999, "unit", 1, 6).tells(0, "balance", 0);
        ALMOST_POOREST.refusesText(5, "h0:0=3.39f").refusesText(5, "h0:0=3.38");
    }

    /** "each behind those ahead of it" */
    static void terms_reasons_5OfBookAll_costsThatEachAreTakenTogetherAreNot() {
        ALMOST_POOREST.books(2, "h0:1=0.18;h0:1=0.20").tells(-99999999, "unit", 0, 6);
        ALMOST_POOREST.refusesText(5, "h0:1=0.19;h0:1=0.19").refusesText(5, "h0:1=0.38;s01:1=0.01");
        ALMOST_POOREST.books(2, "h0:0=3.00f;h0:0=0.38f");
        ALMOST_POOREST.refusesText(5, "h0:0=3.00f;h0:0=0.39f");
    }

    static void terms_reasons_5OfBookAll_999999999ChargedInAllAreTaken_aCentMoreIsNot() {
        ALMOST_ALL_CHARGED.books(1, "e:0=0.99").tells(999999999, "account", 9).refusesText(5, "a:0=0.01");
        ALMOST_ALL_CHARGED.books(2, "a:0=0.50;e:0=0.49").tells(999999999, "account", 9);
        ALMOST_ALL_CHARGED.refusesText(5, "e:0=1.00").refusesText(5, "a:0=0.50;e:0=0.50");
        ALMOST_ALL_CHARGED.books(2, "a:1=0.12f;e:0=0.99").tells(999999999, "account", 9);
    }

    /** Reason 5 is none of move's and vote's. */
    static void terms_reasons_5IsNoneOfMoveAndVote() {
        FULL_FUND.takes(0, "move", 0, 0, 1, MOST).takes(0, "vote", 0, 1, 1);
        ALL_CHARGED.takes(0, "move", 3, 0, 0, MOST);
        POOREST.takes(0, "move", 0, 0, 0, MOST);
    }

    /** wouldPay asks only what would be charged; nothing is refused. */
    static void terms_reasons_5IsNoneOfWouldPay() {
        POOREST.onlyTells(5000000, "wouldPay", 1, 0, MOST, 0);
        ALL_CHARGED.onlyTells(833334, "wouldPay", 3, 0, MOST, 0);
    }

    /** "4, 8 motions were made" */
    static void terms_reasons_4_theEighthMotionIsTaken_theNinthIsNot() {
        Scene seven = withShares(1).times(7, "move", 0, 0, 0, 5);
        seven.takes(7, "move", 3, 0, 4, MOST).refuses(4, "move", 0, 0, 0, 5).refuses(4, "move", 3, 0, 4, MOST);
    }
}
