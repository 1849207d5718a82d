/** Edges of the promises 24 to 26. */
final class TextsEdges extends Edges {
    private static final String SIX_COSTS = "a:0=99.99f;e:1=1.00f;m:2=3.00;h0:3=0.50;s00:4=77.00;a:0=2.00";

    /** "if the buffer contains 60 characters" */
    static void promise24_append_the60thIsTaken_the61stIsNot() {
        Scene full = READY.write(SIX_COSTS.substring(0, 59)).takes(null, "append", '0');
        full.fails(ISE, "append", 'f').takes(6, "bookAll").tells(200, "cost", 8, 3).tells(0, "cost", 8, 4);
        EMPTY.write("x".repeat(59)).takes(null, "append", 'x').fails(ISE, "append", 'x');
    }

    /** "the character, any one" */
    static void promise24_append_theLeastAndTheGreatestCharacterAreTaken() {
        for (char sign : new char[] {0, 1, ' ', '0', 127, 128, 255, 256, 0xD800, 0xDFFF, 0xFFFE, 0xFFFF}) {
            EMPTY.takes(null, "append", sign);
            READY.faults(0, String.valueOf(sign)).faults(8, "a:0=1.00" + sign);
        }
    }

    /** "The buffer is emptied": 60 characters are taken again, whatever bookAll did. */
    static void promise24_append_behindBookAll60AreTakenAgain() {
        for (String text : new String[] {SIX_COSTS, "x".repeat(60), "h2:0=1.00;" + SIX_COSTS.substring(0, 49) + "0"}) {
            Scene emptied = READY.writeAndBook(text).write(SIX_COSTS.substring(0, 59)).takes(null, "append", '0');
            emptied.fails(ISE, "append", ' ').takes(6, "bookAll");
        }
    }

    /** "one or more costs with ';' between them" */
    static void promise25_bookAll_oneCostAndSixAreTaken_noneIsNot() {
        READY.books(1, "a:0=1.00").tells(4, "account", 3);
        READY.books(2, "a:0=1.00;a:0=2.00").tells(5, "account", 3);
        READY.books(6, SIX_COSTS).tells(9, "account", 3);
        READY.faults(0, "");
    }

    static void promise25_bookAll_noCostAheadOfBetweenOrBehindIsAFault() {
        READY.faults(0, ";a:0=1.00").faults(9, "a:0=1.00;").faults(9, "a:0=1.00;;a:0=1.00").faults(0, ";");
    }

    /** "a, e or m for the kinds 0, 3 and 4" */
    static void promise25_bookAll_kindsWithoutAPlace() {
        READY.books(1, "a:0=1.00").tells(0, "cost", 3, 0).tells(0, "cost", 3, 1);
        READY.books(1, "e:0=1.00").tells(3, "cost", 3, 0).tells(0, "cost", 3, 1);
        READY.books(1, "m:0=1.00").tells(4, "cost", 3, 0).tells(0, "cost", 3, 1);
        READY.faults(1, "a0:0=1.00").faults(1, "e0:0=1.00").faults(1, "m0:0=1.00");
    }

    /** "h and a house": "digits for them that are too great are a fault" */
    static void promise25_bookAll_houses0And2AreTaken_house3IsAFault() {
        for (int house = 0; house <= 2; house++) {
            NINE_STAIRS.books(1, "h" + house + ":0=1.00").tells(1, "cost", 0, 0).tells(house, "cost", 0, 1);
        }
        for (int house = 3; house <= 9; house++) {
            NINE_STAIRS.faults(1, "h" + house + ":0=1.00");
        }
        NINE_STAIRS.faults(1, "h:0=1.00").faults(2, "h00:0=1.00");
    }

    /** "or s, a house and a stair" */
    static void promise25_bookAll_stairs00And22AreTaken_3IsAFaultInBothPlaces() {
        for (int place = 0; place <= 8; place++) {
            NINE_STAIRS.books(1, "s" + place / 3 + place % 3 + ":0=1.00").tells(2, "cost", 0, 0).tells(place, "cost", 0, 1);
        }
        for (int digit = 3; digit <= 9; digit++) {
            NINE_STAIRS.faults(1, "s" + digit + "0:0=1.00").faults(2, "s0" + digit + ":0=1.00");
        }
        NINE_STAIRS.faults(1, "s:0=1.00").faults(2, "s0:0=1.00").faults(3, "s000:0=1.00");
    }

    /** "then ':', a purpose" */
    static void promise25_bookAll_purposes0And4AreTaken_purpose5IsAFault() {
        for (int purpose = 0; purpose <= 4; purpose++) {
            READY.books(1, "a:" + purpose + "=1.00").tells(purpose, "cost", 3, 2);
        }
        for (int purpose = 5; purpose <= 9; purpose++) {
            READY.faults(2, "a:" + purpose + "=1.00");
        }
        READY.faults(2, "a:=1.00").faults(3, "a:00=1.00");
    }

    /** "a number of whole units of money with 1 to 5 digits" */
    static void promise25_bookAll_1DigitAnd5AreTaken_noneAnd6AreAFault() {
        READY.books(1, "a:0=1.00").tells(100, "cost", 3, 3);
        READY.books(1, "a:0=12.00").tells(1200, "cost", 3, 3);
        READY.books(1, "a:0=123.00").tells(12300, "cost", 3, 3);
        READY.books(1, "a:0=1234.00").tells(123400, "cost", 3, 3);
        READY.books(1, "a:0=12345.00").tells(1234500, "cost", 3, 3);
        READY.faults(4, "a:0=.00").faults(9, "a:0=123456.00");
    }

    /** "that do not begin with 0, except for 0 itself" */
    static void promise25_bookAll_0ItselfIsTaken_digitsBehindItAreAFault() {
        READY.books(1, "a:0=0.01").tells(1, "cost", 3, 3);
        READY.faults(5, "a:0=00.01").faults(5, "a:0=01.00").faults(5, "a:0=00001.00");
        READY.books(1, "a:0=10.00").tells(1000, "cost", 3, 3);
        READY.books(1, "a:0=10000.00").tells(1000000, "cost", 3, 3);
        READY.books(1, "a:0=90909.09").tells(9090909, "cost", 3, 3);
    }

    /** "'.', 2 digits for cents" */
    static void promise25_bookAll_2DigitsForCentsAreTaken_1And3AreAFault() {
        READY.books(1, "a:0=1.05").tells(105, "cost", 3, 3);
        READY.books(1, "a:0=1.50").tells(150, "cost", 3, 3);
        READY.books(1, "a:0=1.99").tells(199, "cost", 3, 3);
        READY.faults(7, "a:0=1.0").faults(8, "a:0=1.000").faults(6, "a:0=1.").faults(5, "a:0=1").faults(7, "a:0=1.0;");
    }

    /** "and possibly f if it is booked with its fund" */
    static void promise25_bookAll_withAndWithoutF_twoAreAFault() {
        READY.books(1, "a:0=1.00").tells(0, "cost", 3, 4).tells(1260, "balance", 0);
        READY.books(1, "a:0=1.00f").tells(100, "cost", 3, 4).tells(1160, "balance", 0);
        READY.books(2, "a:0=1.00f;a:0=2.00").tells(100, "cost", 3, 4).tells(0, "cost", 4, 4);
        READY.books(2, "a:0=1.00;a:0=2.00f").tells(0, "cost", 3, 4).tells(200, "cost", 4, 4);
        READY.faults(9, "a:0=1.00ff").faults(8, "a:0=1.00F");
    }

    /** "an amount from 1 to 9999999"; an amount of 0 is no fault, but refused */
    static void promise25_bookAll_amounts1And9999999AreTaken_0IsRefused() {
        READY.books(1, "a:1=0.01").tells(2600, "account", 9);
        READY.books(1, "a:1=99999.99").tells(MOST, "cost", 3, 3).tells(2599 + MOST, "account", 9);
        READY.refusesText(2, "a:1=0.00").refusesText(2, "a:0=0.00f");
        READY.faults(9, "a:1=100000.00");
    }

    /** "if it is refused for reason 1" */
    static void promise25_bookAll_withoutUnitsThatItConcernsIsRefused_withOneItIsTaken() {
        for (String text : new String[] {"a:0=1.00", "e:0=1.00", "m:0=1.00", "h0:0=1.00", "s00:0=1.00"}) {
            EMPTY.refusesText(1, text);
            withShares(1).books(1, text);
        }
        READY.refusesText(1, "h2:0=1.00").refusesText(1, "s11:0=1.00f");
        READY.then("addUnit", 2, 0, 1, 0).books(1, "h2:0=1.00");
    }

    /** "all or none of them": whichever is refused */
    static void promise25_bookAll_noneIsBookedIfTheFirstTheMiddleOrTheLastIsRefused() {
        READY.refusesText(1, "h2:0=1.00;a:0=1.00f;m:0=1.00");
        READY.refusesText(1, "a:0=1.00f;h2:0=1.00;m:0=1.00");
        READY.refusesText(1, "a:0=1.00f;m:0=1.00;h2:0=1.00");
        READY.refusesText(2, "m:3=9.00f;a:0=0.00");
        FULL.refusesText(2, "a:0=1.00;m:1=1.00f;a:0=0.00");
        READY.books(3, "a:0=1.00f;m:0=1.00;h1:0=1.00").tells(6, "account", 3);
    }

    /** "if a cost is refused, each behind those ahead of it; the reason is kept": the first one's */
    static void promise25_bookAll_theReasonIsThatOfTheFirstCostThatIsRefused() {
        READY.refusesText(1, "h2:0=1.00;a:0=0.00").refusesText(2, "a:0=0.00;h2:0=1.00");
        ALMOST_POOREST.refusesText(5, "h0:1=0.39;a:0=0.00").refusesText(2, "a:0=0.00;h0:1=0.39");
    }

    /** "each behind those ahead of it": their fund has less, their meters are billed */
    static void promise25_bookAll_eachIsBookedBehindThoseAheadOfIt() {
        Scene funded = READY.books(3, "a:3=4.99f;a:3=0.02f;a:3=0.05f");
        funded.tells(499, "cost", 3, 4).tells(1, "cost", 4, 4).tells(0, "cost", 5, 4).tells(0, "balance", 3);
        Scene metered = withShares(1, 3).then("read", 0, 5).books(2, "m:0=1.00;m:0=1.00");
        parts(metered, 0, 8 + 70, 22);
        parts(metered, 1, 8 + 18, 22 + 52);
    }

    static void promise25_bookAll_aFaultIsToldAheadOfWhatWouldBeRefused() {
        READY.faults(10, "h2:0=1.00;x").faults(9, "a:0=0.00;");
        EMPTY.faults(8, "a:0=1.00 ");
        ALMOST_POOREST.faults(12, "h0:1=0.39;a:");
    }

    /** "The buffer is emptied, also if an exception is thrown." */
    static void promise25_bookAll_theBufferIsEmptiedInEachCase() {
        for (String text : new String[] {"a:0=1.00", "a:0=1.0", "a:0=0.00", "h2:0=1.00", "a:0=1.00;x", ""}) {
            Scene emptied = READY.writeAndBook(text);
            emptied.tells(IAE.getName(), "bookAll").then("bookAll").tells(0, "faultPosition");
            emptied.faults(0, "").books(1, "a:0=5.00");
        }
    }

    static void promise25_bookAll_noCharacterOfAnEarlierTextComesBack() {
        Scene booked = READY.writeAndBook("a:0=12.34f;a:1=5.00");
        String text = "a:0=12.34f";
        for (int length = 0; length <= 8; length++) {
            booked.faults(length, text.substring(0, length));
        }
        booked.books(1, text.substring(0, 9)).tells(0, "cost", 5, 4);
    }

    /** Costs of a text are one change together. */
    static void promise25_bookAll_sixCostsAreOneChange() {
        Scene behind = withShares(1).books(6, SIX_COSTS);
        behind.tells(1, "undo").then("undo").tells(0, "account", 3).tells(1, "account", 0);
    }

    /** "the length of the text if it ends too early" */
    static void promise26_faultPosition_isTheLengthOfATextThatEndsTooEarly() {
        String whole = "s12:3=45678.90f;h2:0=0.07";
        Scene house2 = READY.then("addUnit", 2, 0, 1, 0);
        for (int length = 0; length < whole.length(); length++) {
            boolean isWhole = length == 14 || length == 15;
            if (isWhole) {
                house2.books(1, whole.substring(0, length));
            } else {
                house2.faults(length, whole.substring(0, length));
            }
        }
        house2.books(2, whole);
    }

    static void promise26_faultPosition_isTheLengthOfAFullBufferThatEndsTooEarly() {
        String four = "a:0=1000.00f;a:0=1000.00;a:0=1000.00f;a:0=100.00;";
        READY.faults(60, four + "a:0=12345.6").faults(60, four + "s00:0=1.00;").faults(60, four + "a:0=1.00f;a");
        READY.faults(59, four + "a:0=100.00x").faults(0, "x".repeat(60)).books(5, four + "a:0=100.00f");
    }

    /** "or -1 if the text had no fault or bookAll has not been called" */
    static void promise26_faultPosition_minus1WithoutCall_behindSuccessAndBehindARefusal() {
        EMPTY.onlyTells(-1, "faultPosition");
        BUSY.onlyTells(-1, "faultPosition");
        EMPTY.write("x").tells(-1, "faultPosition");
        Scene fault = READY.writeAndBook("a:").onlyTells(2, "faultPosition");
        fault.writeAndBook("a:0=1.00").tells(-1, "faultPosition");
        fault.writeAndBook("h2:0=1.00").tells(-1, "faultPosition");
        fault.writeAndBook("a:0=0.00").tells(-1, "faultPosition");
    }

    /** "of the text of the latest call of bookAll" */
    static void promise26_faultPosition_isOfTheLatestText() {
        Scene fault = READY.writeAndBook("a:0=1.00").tells(-1, "faultPosition").writeAndBook("a:9")
                .tells(2, "faultPosition");
        fault.write("e:1").tells(2, "faultPosition").then("bookAll").tells(3, "faultPosition").then("bookAll")
                .tells(0, "faultPosition");
        fault.then("pay", 0, 0).then("pay", 0, 1).tells(2, "faultPosition");
    }

    /** Behind these signs each other sign is a fault at its own index, and each of the next signs is none there. */
    private static void nextSigns(String signs, String next) {
        for (int sign = 0; sign < 400; sign++) {
            nextSign(signs, (char) sign, next.indexOf(sign) >= 0);
        }
        for (char digit = '0'; digit <= '9'; digit++) {
            for (int page = 1; page <= 255; page++) {
                nextSign(signs, (char) (digit + 256 * page), false);
            }
        }
        for (char sign : "aemhs:=.;f".toCharArray()) {
            nextSign(signs, (char) (sign + 256), false);
            nextSign(signs, (char) (sign + 0x8000), false);
            nextSign(signs, (char) (sign + 0xFEE0), false);
        }
    }

    private static void nextSign(String signs, char sign, boolean isNext) {
        CondoLedger ledger = Call.newLedger();
        String text = signs + sign;
        Check.write(ledger, text);
        String answer = Call.of("bookAll").told(ledger);
        boolean isWhole = text.matches("(.*;)?[aemhs][0-9]*:[0-9]=[0-9]*[.][0-9][0-9]f?");
        int due = !isNext ? signs.length() : isWhole ? -1 : text.length();
        Check.same("faultPosition() of " + signs + " and sign " + (int) sign, ledger.faultPosition(), due);
        Class<?> exception = due < 0 ? Check.REFUSED : IAE;
        Check.same("bookAll() of " + signs + " and sign " + (int) sign, answer, exception.getName());
    }

    /** "the index of its first character that cannot continue such a text" */
    static void promise26_faultPosition_atTheStart() {
        nextSigns("", "aemhs");
    }

    static void promise26_faultPosition_behindAKind() {
        nextSigns("a", ":");
        nextSigns("e", ":");
        nextSigns("m", ":");
        nextSigns("h", "012");
        nextSigns("s", "012");
    }

    static void promise26_faultPosition_behindAPlace() {
        nextSigns("h0", ":");
        nextSigns("h2", ":");
        nextSigns("s0", "012");
        nextSigns("s2", "012");
        nextSigns("s00", ":");
        nextSigns("s22", ":");
    }

    static void promise26_faultPosition_behindTheColonAndAPurpose() {
        nextSigns("a:", "01234");
        nextSigns("h1:", "01234");
        nextSigns("s12:", "01234");
        nextSigns("a:0", "=");
        nextSigns("e:4", "=");
    }

    static void promise26_faultPosition_behindTheEqualsSign() {
        nextSigns("a:0=", "0123456789");
    }

    static void promise26_faultPosition_behindTheDigitsOfWholeUnits() {
        nextSigns("a:0=0", ".");
        nextSigns("a:0=1", "0123456789.");
        nextSigns("a:0=9", "0123456789.");
        nextSigns("a:0=10", "0123456789.");
        nextSigns("a:0=100", "0123456789.");
        nextSigns("a:0=1000", "0123456789.");
        nextSigns("a:0=10000", ".");
        nextSigns("a:0=99999", ".");
    }

    static void promise26_faultPosition_behindThePointAndTheDigitsOfCents() {
        nextSigns("a:0=0.", "0123456789");
        nextSigns("a:0=99999.", "0123456789");
        nextSigns("a:0=1.0", "0123456789");
        nextSigns("a:0=1.9", "0123456789");
    }

    static void promise26_faultPosition_behindACost() {
        nextSigns("a:0=1.00", "f;");
        nextSigns("a:0=1.00f", ";");
    }

    static void promise26_faultPosition_inTheNextCost() {
        nextSigns("a:0=1.00;", "aemhs");
        nextSigns("a:0=1.00f;", "aemhs");
        nextSigns("a:0=1.00;h", "012");
        nextSigns("a:0=1.00f;s2", "012");
        nextSigns("a:0=1.00;e:0=0", ".");
        nextSigns("a:0=1.00;e:0=1.23", "f;");
        nextSigns("a:0=1.00;e:0=1.23f", ";");
    }
}
