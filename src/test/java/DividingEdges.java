/** Edges of the terms on dividing, also by meters. */
final class DividingEdges extends Edges {

    /** Every call that divides by shares gives each unit the part that is due. */
    private static void divides(int[] shares, int amount, int... due) {
        Scene scene = withShares(shares);
        sameInEachCall(scene, 0, 0, amount, due);
        charged(scene.then("fund", 1, amount), due);
    }

    private static void dividesEqually(int[] shares, int amount, int... due) {
        sameInEachCall(withShares(shares), 3, 0, amount, due);
    }

    private static void sameInEachCall(Scene scene, int kind, int place, int amount, int... due) {
        for (int unit = 0; unit < due.length; unit++) {
            scene.tells(due[unit], "wouldPay", kind, place, amount, unit);
        }
        Scene booked = scene.takes(0, "book", kind, place, 0, amount, false);
        parts(booked, 0, due);
        charged(booked, due);
        charged(scene.then("move", kind, place, 0, amount).then("set", 1, 0).then("vote", 0, 0, 1).takes(1, "close", 0),
                due);
    }

    private static void dividesByMeters(int baseRate, int[] shares, int[] uses, int amount, int... due) {
        Scene scene = withShares(shares).then("set", 0, baseRate);
        for (int unit = 0; unit < uses.length; unit++) {
            scene = scene.then("read", unit, uses[unit]);
        }
        for (int unit = 0; unit < due.length; unit++) {
            scene.onlyTells(due[unit], "wouldPay", 4, 0, amount, unit);
        }
        Scene booked = scene.takes(0, "book", 4, 0, 0, amount, false);
        parts(booked, 0, due);
        charged(booked, due);
    }

    private static int[] row(int... numbers) {
        return numbers;
    }

    private static int[] twelve(int number) {
        int[] row = new int[12];
        java.util.Arrays.fill(row, number);
        return row;
    }

    /** "the amount times its weight, divided by the sum of the weights" */
    static void terms_dividing_noCentIsLeftOver() {
        divides(row(1, 4), 10, 2, 8);
        divides(row(1, 1, 1), 3, 1, 1, 1);
        divides(row(299, 299, 299), MOST, 3333333, 3333333, 3333333);
    }

    /** "and rounded down; the cents that are left over go one each" */
    static void terms_dividing_oneCentIsLeftOver() {
        divides(row(1, 1, 1), 1, 1, 0, 0);
        divides(row(1, 1, 1), 4, 2, 1, 1);
        divides(row(300, 299, 298), MOST, 3344481, 3333333, 3322185);
    }

    static void terms_dividing_asManyCentsAreLeftOverAsCanBe() {
        divides(row(1, 1, 1), 2, 1, 1, 0);
        divides(row(1, 1, 1), 5, 2, 2, 1);
        divides(row(1, 1, 2), 3, 1, 1, 1);
    }

    /** "to the units with the greatest remainders of these divisions" */
    static void terms_dividing_theGreatestRemainderIsFirst_alsoOfAHigherUnit() {
        divides(row(1, 2), 1, 0, 1);
        divides(row(2, 1), 1, 1, 0);
        divides(row(1, 1, 2), 2, 1, 0, 1);
        divides(row(1, 2, 3), 2, 0, 1, 1);
    }

    /** One cent of the amount turns the remainders round. */
    static void terms_dividing_remaindersJustBelowAndAboveTheOther() {
        divides(row(1, 300), 150, 0, 150);
        divides(row(1, 300), 151, 1, 150);
    }

    /** "of the same remainder first to those with lower numbers" */
    static void terms_dividing_theSameRemainder_theLowerUnitIsFirst() {
        divides(row(1, 1), 1, 1, 0);
        divides(row(3, 3, 3, 3), 6, 2, 2, 1, 1);
        divides(row(4, 1, 1), 3, 2, 1, 0);
        divides(row(1, 3, 1, 3), 4, 1, 2, 0, 1);
    }

    /** "Each unit gets at most one of the cents that are left over in a division." */
    static void terms_dividing_noUnitGetsTwoCents() {
        divides(row(1, 1, 1, 97), 98, 1, 1, 1, 95);
        divides(row(9, 1, 1, 1, 1, 1, 1, 1, 1, 1), 2, 1, 1, 0, 0, 0, 0, 0, 0, 0, 0);
    }

    static void terms_dividing_theOnlyUnitGetsAllOfIt() {
        divides(row(1), 1, 1);
        divides(row(300), MOST, MOST);
        dividesByMeters(30, row(7), row(0), MOST, MOST);
        dividesByMeters(30, row(7), row(5), 1, 1);
    }

    /** A product of the greatest amount and the greatest shares does not fit an int. */
    static void terms_dividing_theGreatestProductDoesNotWrapAround() {
        divides(row(300, 300), MOST, 5000000, 4999999);
        divides(twelve(300), MOST, 833334, 833334, 833334, 833333, 833333, 833333, 833333, 833333, 833333, 833333,
                833333, 833333);
    }

    /** "or 1 for each unit for the kind 3" */
    static void terms_dividing_equally_theSharesDoNotCount() {
        dividesEqually(row(1, 300, 7), 2, 1, 1, 0);
        dividesEqually(row(1, 300, 7), 3, 1, 1, 1);
        dividesEqually(row(1, 300, 7), MOST, 3333333, 3333333, 3333333);
    }

    static void terms_dividing_equally_elevenTwelveAndThirteenCentsAmongTwelve() {
        dividesEqually(twelve(5), 11, 1, 1, 1, 1, 1, 1, 1, 1, 1, 1, 1, 0);
        dividesEqually(twelve(5), 12, 1, 1, 1, 1, 1, 1, 1, 1, 1, 1, 1, 1);
        dividesEqually(twelve(5), 13, 2, 1, 1, 1, 1, 1, 1, 1, 1, 1, 1, 1);
        dividesEqually(twelve(5), 1, 1, 0, 0, 0, 0, 0, 0, 0, 0, 0, 0, 0);
    }

    /** "each unit that it concerns gets" */
    static void terms_dividing_unitsThatItDoesNotConcernGetNothing() {
        Scene scene = EMPTY.then("addUnit", 0, 0, 300, 0).then("addUnit", 1, 1, 1, 1).then("addUnit", 1, 2, 1, 2)
                .then("addUnit", 1, 1, 1, 3);
        sameInEachCall(scene, 1, 1, 5, 0, 2, 2, 1);
        sameInEachCall(scene, 2, 4, 5, 0, 3, 0, 2);
        sameInEachCall(scene, 2, 0, 5, 5, 0, 0, 0);
    }

    /** "the amount times the base rate in hundredths, rounded down" */
    static void terms_meters_theBaseIsRoundedDown() {
        dividesByMeters(1, row(1, 1), row(0, 5), 99, 0, 99);
        dividesByMeters(1, row(1, 1), row(0, 5), 100, 1, 99);
        dividesByMeters(1, row(1, 1), row(0, 5), 199, 1, 198);
        dividesByMeters(1, row(1, 1), row(0, 5), 200, 1, 199);
        dividesByMeters(99, row(1, 1), row(0, 5), 1, 0, 1);
        dividesByMeters(99, row(1, 1), row(0, 5), MOST, 4950000, 4949999 + 100000);
    }

    /** "Setting 0 is the base rate, 0 to 100" */
    static void terms_meters_aBaseRateOf0LeavesNoBase_of100NoRest() {
        dividesByMeters(0, row(1, 3), row(0, 5), 8, 0, 8);
        dividesByMeters(0, row(1, 3), row(0, 0), 8, 2, 6);
        dividesByMeters(100, row(1, 3), row(0, 5), 8, 2, 6);
        dividesByMeters(100, row(1, 3), row(5, 0), 1, 0, 1);
        dividesByMeters(100, row(1, 3), row(5, 0), MOST, 2500000, 7499999);
    }

    /** "or by shares, too, if no unit has any use" */
    static void terms_meters_noUnitHasUse_theRestGoesByShares_aUseOf1TakesIt() {
        dividesByMeters(30, row(1, 3), row(0, 0), 100, 8 + 18, 22 + 52);
        dividesByMeters(30, row(1, 3), row(1, 0), 100, 8 + 70, 22);
        dividesByMeters(30, row(1, 3), row(0, 1), 100, 8, 22 + 70);
    }

    /** A reading that was billed is no use, however great it is. */
    static void terms_meters_aBilledReadingIsNoUse() {
        Scene billed = withShares(1, 3).then("read", 0, 500).then("book", 4, 0, 0, 100, false);
        parts(billed.then("book", 4, 0, 0, 100, false), 1, 8 + 18, 22 + 52);
        parts(billed.then("read", 1, 1).then("book", 4, 0, 0, 100, false), 1, 8, 22 + 70);
    }

    /** "the rest is divided by use among all units" */
    static void terms_meters_aUnitWithoutUseGetsNoCentThatIsLeftOver() {
        dividesByMeters(0, row(300, 1, 1, 1), row(0, 1, 1, 1), 2, 0, 1, 1, 0);
        dividesByMeters(0, row(300, 1, 1, 1), row(0, 1, 2, 0), 1, 0, 0, 1, 0);
    }

    static void terms_meters_theGreatestUsesDoNotWrapAround() {
        dividesByMeters(0, row(1, 1, 1), row(99999, 99998, 1), MOST, 5000000, 4999949, 50);
        dividesByMeters(0, twelve(1), twelve(99999), MOST, 833334, 833334, 833334, 833333, 833333, 833333, 833333,
                833333, 833333, 833333, 833333, 833333);
    }

    /** "The base and the rest of a cost by meters are divided each by itself." */
    static void terms_meters_theBaseAndTheRestAreDividedEachByItself() {
        dividesByMeters(50, row(1, 1), row(0, 0), 2, 2, 0);
        dividesByMeters(50, row(1, 1), row(1, 1), 2, 2, 0);
        dividesByMeters(50, row(2, 1), row(1, 2), 2, 1, 1);
        dividesByMeters(50, row(1, 2), row(2, 1), 2, 1, 1);
    }

    /** "Then the billed reading of each unit becomes its reading." */
    static void terms_meters_eachMeterIsBilled_alsoWithoutUseOrWithoutRest() {
        Scene scene = withShares(1, 3, 2).then("read", 0, 9).then("read", 2, 99999);
        everyUseIs0(scene.then("book", 4, 0, 0, 100, false));
        everyUseIs0(scene.then("set", 0, 100).then("book", 4, 0, 0, 100, false));
        everyUseIs0(scene.then("set", 0, 0).then("book", 4, 0, 0, 1, false));
    }

    private static void everyUseIs0(Scene scene) {
        scene.tells(0, "unit", 0, 5).tells(0, "unit", 1, 5).tells(0, "unit", 2, 5);
        scene.tells(9, "unit", 0, 4).tells(0, "unit", 1, 4).tells(99999, "unit", 2, 4);
    }

    static void terms_meters_otherKindsAndFundsBillNoMeter() {
        Scene scene = withShares(1, 3).then("read", 0, 9);
        for (int kind = 0; kind <= 3; kind++) {
            scene.then("book", kind, 0, 0, 100, false).tells(9, "unit", 0, 5);
        }
        scene.then("fund", 0, 100).tells(9, "unit", 0, 5);
        scene.then("move", 0, 0, 0, 9).then("set", 1, 0).then("vote", 0, 0, 1).takes(1, "close", 0)
                .tells(9, "unit", 0, 5);
    }
}
