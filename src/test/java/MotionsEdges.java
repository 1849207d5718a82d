/** Edges of the promises 18 to 23. */
final class MotionsEdges extends Edges {

    /** "if the kind is not from 0 to 3" */
    static void promise18_move_kinds0And3AreTaken_kindsMinus1And4AreNot() {
        BUSY.takes(3, "move", 0, 0, 1, 9).tells(0, "motion", 3, 0);
        BUSY.takes(3, "move", 3, 0, 1, 9).tells(3, "motion", 3, 0);
        BUSY.fails(IAE, "move", -1, 0, 1, 9).fails(IAE, "move", 4, 0, 1, 9).fails(IAE, "move", 5, 0, 1, 9);
        BUSY.fails(IAE, "move", LEAST_INT, 0, 1, 9).fails(IAE, "move", GREATEST_INT, 0, 1, 9);
    }

    /** "the purpose not from 0 to 4" */
    static void promise18_move_purposes0And4AreTaken_purposesMinus1And5AreNot() {
        BUSY.takes(3, "move", 0, 0, 0, 9).tells(0, "motion", 3, 2);
        BUSY.takes(3, "move", 0, 0, 4, 9).tells(4, "motion", 3, 2);
        BUSY.fails(IAE, "move", 0, 0, -1, 9).fails(IAE, "move", 0, 0, 5, 9);
        BUSY.fails(IAE, "move", 0, 0, LEAST_INT, 9).fails(IAE, "move", 0, 0, GREATEST_INT, 9);
    }

    /** "or the place does not fit the kind" */
    static void promise18_move_thePlaceFitsItsOwnKindOnly() {
        BUSY.takes(3, "move", 1, 1, 1, 9).tells(1, "motion", 3, 1);
        BUSY.fails(IAE, "move", 1, -1, 1, 9).fails(IAE, "move", 1, 3, 1, 9);
        BUSY.takes(3, "move", 2, 5, 1, 9).tells(5, "motion", 3, 1);
        BUSY.fails(IAE, "move", 2, -1, 1, 9).fails(IAE, "move", 2, 9, 1, 9);
        BUSY.fails(IAE, "move", 0, 1, 1, 9).fails(IAE, "move", 3, 1, 1, 9).fails(IAE, "move", 3, -1, 1, 9);
    }

    /** "refused for reason 1" */
    static void promise18_move_withoutUnitsThatItConcernsIsNotTaken_withOneItIs() {
        for (int kind = 0; kind <= 3; kind++) {
            EMPTY.refuses(1, "move", kind, 0, 1, 9);
            withShares(1).takes(0, "move", kind, 0, 1, 9);
        }
        BUSY.refuses(1, "move", 1, 2, 1, 9).refuses(1, "move", 2, 4, 1, 9);
        BUSY.then("addUnit", 2, 1, 1, 0).takes(3, "move", 1, 2, 1, 9);
        BUSY.then("addUnit", 1, 1, 1, 0).takes(3, "move", 2, 4, 1, 9);
    }

    /** "an amount from 1 to 9999999" */
    static void promise18_move_amounts1And9999999AreTaken_0And10000000AreNot() {
        BUSY.takes(3, "move", 0, 0, 1, 1).tells(1, "motion", 3, 3);
        BUSY.takes(3, "move", 0, 0, 1, MOST).tells(MOST, "motion", 3, 3);
        BUSY.refuses(2, "move", 0, 0, 1, 0).refuses(2, "move", 0, 0, 1, 10000000);
        BUSY.refuses(2, "move", 2, 1, 1, -1).refuses(2, "move", 3, 0, 1, LEAST_INT)
                .refuses(2, "move", 1, 0, 1, GREATEST_INT);
    }

    /** "At most 8 motions are made, numbered from 0." */
    static void promise18_move_motionsAreNumberedFrom0_the8thIsMade_the9thIsNot() {
        Scene scene = withShares(5);
        for (int motion = 0; motion <= 7; motion++) {
            scene = scene.takes(motion, "move", motion % 4, 0, motion % 5, motion + 1).tells(motion + 1, "account", 4);
        }
        scene.tells(1, "motion", 0, 3).tells(8, "motion", 7, 3).refuses(4, "move", 0, 0, 0, 1);
        FULL.refuses(4, "move", 1, 1, 0, 1);
    }

    /** "8 motions were made": those that are not open, too; one that was undone was not. */
    static void promise18_move_closedMotionsCountAmongThe8_undoneOnesDoNot() {
        Scene eight = withShares(5).times(8, "move", 0, 0, 0, 3);
        eight.then("close", 0).then("close", 7).tells(6, "account", 5).refuses(4, "move", 0, 0, 0, 3);
        eight.then("undo").takes(7, "move", 3, 0, 2, 44).tells(44, "motion", 7, 3).refuses(4, "move", 0, 0, 0, 3);
    }

    static void promise18_move_outOfRangeIsToldAheadOfTheReasons() {
        EMPTY.fails(IAE, "move", 4, 0, 0, 0).fails(IAE, "move", 0, 1, 0, 0).fails(IAE, "move", 0, 0, 5, 0);
        FULL.fails(IAE, "move", 4, 0, 0, 1).fails(IAE, "move", 1, 3, 0, 1).fails(IAE, "move", 0, 0, -1, 1);
        BUSY.fails(IAE, "move", 2, 9, 0, 0).fails(IAE, "move", 1, 2, 5, 0);
    }

    /** A motion begins open and without votes, also in the place of an undone one with votes. */
    static void promise18_move_aNewMotionIsOpenAndWithoutVotes() {
        Scene scene = withShares(1, 2).then("move", 0, 0, 0, 1).then("vote", 0, 0, 1).then("vote", 0, 1, -1)
                .then("close", 0).times(4, "undo").takes(0, "move", 3, 0, 3, 5);
        scene.tells(0, "motion", 0, 4).tells(0, "voted", 0, 0).tells(0, "voted", 0, 1).tells(5, "motion", 0, 3);
    }

    /** "if there is no such unit" */
    static void promise19_vote_units0And4AreThere_unitsMinus1And5AreNot() {
        BUSY.takes(1, "vote", 2, 0, -1).tells(-1, "voted", 2, 0).tells(1, "voted", 2, 1);
        BUSY.takes(0, "vote", 2, 4, 1).tells(1, "voted", 2, 4).tells(-1, "voted", 2, 3);
        BUSY.fails(IOOBE, "vote", 2, -1, 1).fails(IOOBE, "vote", 2, 5, 1);
        BUSY.fails(IOOBE, "vote", 2, LEAST_INT, 1).fails(IOOBE, "vote", 2, GREATEST_INT, 1);
        EMPTY.fails(IOOBE, "vote", 0, 0, 1);
        FULL.takes(0, "vote", 5, 11, 1).tells(1, "voted", 5, 11);
        FULL.fails(IOOBE, "vote", 5, 12, 1);
    }

    /** "if vote is not from -1 to 1" */
    static void promise19_vote_votesMinus1And1AreTaken_minus2And2AreNot() {
        BUSY.takes(0, "vote", 2, 4, -1).tells(-1, "voted", 2, 4);
        BUSY.takes(0, "vote", 2, 4, 1).tells(1, "voted", 2, 4);
        BUSY.takes(1, "vote", 2, 0, 0).tells(0, "voted", 2, 0);
        BUSY.fails(IAE, "vote", 2, 4, -2).fails(IAE, "vote", 2, 4, 2);
        BUSY.fails(IAE, "vote", 2, 4, LEAST_INT).fails(IAE, "vote", 2, 4, GREATEST_INT);
    }

    /** "3, there is no such motion" */
    static void promise19_vote_motions0And7AreThere_motionsMinus1And8AreNot() {
        Scene eight = withShares(1).times(8, "move", 0, 0, 0, 1);
        eight.takes(0, "vote", 0, 0, 1).tells(1, "voted", 0, 0).tells(0, "voted", 1, 0);
        eight.takes(0, "vote", 7, 0, 1).tells(1, "voted", 7, 0).tells(0, "voted", 6, 0);
        eight.refuses(3, "vote", -1, 0, 1).refuses(3, "vote", 8, 0, 1);
        eight.refuses(3, "vote", LEAST_INT, 0, 1).refuses(3, "vote", GREATEST_INT, 0, 1);
        BUSY.refuses(3, "vote", 3, 0, 1).refuses(3, "vote", -1, 4, 0);
        withShares(1).refuses(3, "vote", 0, 0, 1);
    }

    /** "or it is not open" */
    static void promise19_vote_onACarriedOrLostMotionIsNotTaken_onAnOpenOneItIs() {
        BUSY.refuses(3, "vote", 0, 0, -1).refuses(3, "vote", 0, 4, 1).refuses(3, "vote", 0, 0, 0);
        BUSY.refuses(3, "vote", 1, 0, 1).refuses(3, "vote", 1, 1, 0);
        BUSY.takes(-1, "vote", 2, 2, 1);
        READY.then("close", 2).refuses(3, "vote", 2, 4, 1).then("undo").takes(0, "vote", 2, 4, 1);
    }

    static void promise19_vote_noUnitAheadOfTheVote_aheadOfTheMotion() {
        BUSY.fails(IOOBE, "vote", 2, 5, 2).fails(IOOBE, "vote", 9, -1, 2).fails(IOOBE, "vote", 0, 5, 1)
                .fails(IOOBE, "vote", -1, 5, 1);
        BUSY.fails(IAE, "vote", 9, 0, 2).fails(IAE, "vote", 0, 0, -2).fails(IAE, "vote", -1, 0, 2);
    }

    /** "Returns the vote before." */
    static void promise19_vote_answersTheVoteBefore_alsoIfItStays() {
        BUSY.takes(0, "vote", 2, 4, 0).takes(0, "vote", 2, 4, 1).takes(1, "vote", 2, 4, 1).takes(1, "vote", 2, 4, -1)
                .takes(-1, "vote", 2, 4, 0).takes(0, "vote", 2, 4, -1);
    }

    /** "3, there is no such motion, or it is not open" */
    static void promise20_close_anOpenMotionIsClosed_noneElseIs() {
        BUSY.takes(1, "close", 2).refuses(3, "close", 2);
        BUSY.refuses(3, "close", -1).refuses(3, "close", 3).refuses(3, "close", 0).refuses(3, "close", 1);
        BUSY.refuses(3, "close", LEAST_INT).refuses(3, "close", GREATEST_INT);
        EMPTY.refuses(3, "close", 0);
        Scene eight = withShares(1).times(8, "move", 0, 0, 0, 1);
        eight.takes(0, "close", 0).refuses(3, "close", 0);
        eight.takes(0, "close", 7).refuses(3, "close", 7);
        eight.refuses(3, "close", 8);
    }

    /** Motion 0 with a quota, votes for it by the first units and against it by the next ones. */
    private static Scene voted(Scene units, int quota, int votesFor, int votesAgainst) {
        Scene scene = units.then("set", 1, quota).then("move", 0, 0, 0, 100);
        for (int unit = 0; unit < votesFor + votesAgainst; unit++) {
            scene = scene.then("vote", 0, unit, unit < votesFor ? 1 : -1);
        }
        return scene;
    }

    private static void isCarried(Scene scene) {
        scene.tells(1, "motion", 0, 9).takes(1, "close", 0).tells(1, "motion", 0, 4).tells(1, "motion", 0, 9)
                .tells(100, "balance", 0).tells(100, "account", 9);
    }

    private static void isLost(Scene scene) {
        scene.tells(0, "motion", 0, 9).takes(0, "close", 0).tells(2, "motion", 0, 4).tells(0, "motion", 0, 9)
                .tells(0, "balance", 0).tells(0, "account", 9);
    }

    /** "if there are more heads for it than against it" */
    static void promise20_close_oneHeadMoreForItCarries_asManyLose_oneHeadMoreAgainstLoses() {
        isCarried(voted(withShares(1, 1, 1, 1, 1), 0, 3, 2));
        isLost(voted(withShares(1, 1, 1, 1), 0, 2, 2));
        isLost(voted(withShares(1, 1, 1, 1, 1), 0, 2, 3));
        isLost(voted(withShares(300, 1), 0, 1, 1));
        isCarried(voted(withShares(1, 1, 300), 0, 2, 1));
    }

    /** "the shares of all units that vote for it, in hundredths of all shares, are at least the quota" */
    static void promise20_close_theQuotaExactlyCarries_aShareLessLoses() {
        isCarried(voted(withShares(50, 50), 50, 1, 0));
        isLost(voted(withShares(49, 51), 50, 1, 0));
        isCarried(voted(withShares(51, 49), 50, 1, 0));
        isCarried(voted(withShares(1, 99), 1, 1, 0));
        isLost(voted(withShares(1, 100), 1, 1, 0));
        isCarried(voted(withShares(99, 1), 99, 1, 0));
        isLost(voted(withShares(99, 1), 100, 1, 0));
    }

    /** "Shares reach the quota exactly if 100 times the shares for it are at least the quota times all shares." */
    static void promise20_close_theHundredthsAreNotRounded() {
        isCarried(voted(withShares(1, 2), 33, 1, 0));
        isLost(voted(withShares(1, 2), 34, 1, 0));
        isCarried(voted(withShares(2, 1), 66, 1, 0));
        isLost(voted(withShares(2, 1), 67, 1, 0));
    }

    /** "Setting 1 is the quota, 0 to 100" */
    static void promise20_close_aQuotaOf100NeedsAllShares_aQuotaOf0None() {
        isCarried(voted(withEqualUnits(8), 100, 8, 0));
        isLost(voted(withEqualUnits(8), 100, 7, 0));
        isLost(voted(withShares(300, 300, 1), 100, 2, 1));
        isCarried(voted(withShares(1, 300, 300), 0, 1, 0));
    }

    /** "With no votes a motion cannot be carried, whatever the quota is." */
    static void promise20_close_withNoVotesItIsLost_whateverTheQuotaIs() {
        isLost(voted(withShares(1, 2), 0, 0, 0));
        isLost(voted(withShares(1, 2), 100, 0, 0));
        isLost(voted(withShares(1, 2), 0, 1, 0).then("vote", 0, 0, 0));
        isLost(voted(withShares(1, 2), 0, 0, 1));
    }

    /** The quota is of all shares, not of those that vote. */
    static void promise20_close_theSharesThatDoNotVoteCount() {
        isLost(voted(withShares(1, 1, 1), 34, 1, 0));
        isCarried(voted(withShares(1, 1, 1), 33, 1, 0));
        isLost(voted(withShares(50, 50), 50, 1, 0).then("addUnit", 0, 0, 1, 5));
    }

    /** "the owners of whom the unit with the lowest number that votes votes for it" */
    static void promise20_close_theLowestUnitThatVotesSpeaksForItsOwner() {
        Scene units = withShares(1, 1, 1).then("setOwner", 1, 0).then("setOwner", 2, 0).then("set", 1, 0)
                .then("move", 0, 0, 0, 100);
        Scene highAgainst = units.then("vote", 0, 1, 1).then("vote", 0, 2, -1);
        isCarried(highAgainst);
        isLost(highAgainst.then("vote", 0, 0, -1));
        isCarried(highAgainst.then("vote", 0, 0, -1).then("vote", 0, 0, 0));
        isLost(highAgainst.then("vote", 0, 1, 0));
    }

    /** "A motion divides among the units of now." */
    static void promise20_close_divides_amongTheUnitsOfNow() {
        Scene scene = EMPTY.then("addUnit", 0, 0, 1, 0).then("addUnit", 1, 0, 1, 1).then("move", 1, 0, 2, 10)
                .then("vote", 0, 0, 1).then("vote", 0, 1, 1).then("addUnit", 0, 1, 1, 2);
        charged(scene.takes(1, "close", 0).tells(10, "balance", 2), 5, 0, 5);
        charged(scene.then("undo").takes(1, "close", 0).tells(10, "balance", 2), 10, 0);
    }

    /** "If it is carried ... the fund with its purpose gets the amount"; no cost is made, and a lost one does nothing */
    static void promise20_close_aCarriedOneGivesToItsFundOnly_aLostOneNothing() {
        Scene carried = BUSY.takes(1, "close", 2).tells(580, "balance", 3).tells(1260, "balance", 0).tells(3, "account", 3);
        charged(carried, 696, 832 + 62, 334, 487, 250 + 18);
        Scene lost = BUSY.then("vote", 2, 0, 0).takes(0, "close", 2).tells(500, "balance", 3);
        charged(lost, 696, 832, 334, 487, 250);
    }

    static void promise20_close_amounts1And9999999() {
        Scene scene = withShares(1, 1).then("set", 1, 0).then("move", 3, 0, 4, 1).then("move", 3, 0, 4, MOST)
                .then("vote", 0, 1, 1).then("vote", 1, 1, 1);
        charged(scene.takes(1, "close", 0).tells(1, "balance", 4), 1, 0);
        charged(scene.takes(1, "close", 1).tells(MOST, "balance", 4), 5000000, 4999999);
    }

    /** "if there is no such motion" */
    static void promise21_motion_motions0And2AreThere_motionsMinus1And3AreNot() {
        BUSY.onlyTells(300, "motion", 0, 3).onlyTells(80, "motion", 2, 3);
        BUSY.fails(IOOBE, "motion", -1, 3).fails(IOOBE, "motion", 3, 3);
        BUSY.fails(IOOBE, "motion", LEAST_INT, 3).fails(IOOBE, "motion", GREATEST_INT, 3);
        EMPTY.fails(IOOBE, "motion", 0, 0);
        FULL.tells(507, "motion", 7, 3).fails(IOOBE, "motion", 8, 3);
    }

    /** "if what is not from 0 to 9" */
    static void promise21_motion_what0And9AreTold_whatMinus1And10AreNot() {
        int[] due = {2, 1, 3, 80, 0, 2, 1, 300, 140, 1};
        for (int what = 0; what <= 9; what++) {
            BUSY.tells(due[what], "motion", 2, what);
        }
        BUSY.onlyTells(2, "motion", 2, 0).onlyTells(1, "motion", 2, 9);
        BUSY.fails(IAE, "motion", 2, -1).fails(IAE, "motion", 2, 10);
        BUSY.fails(IAE, "motion", 2, LEAST_INT).fails(IAE, "motion", 2, GREATEST_INT);
    }

    static void promise21_motion_noMotionIsToldAheadOfWhat() {
        BUSY.fails(IOOBE, "motion", -1, -1).fails(IOOBE, "motion", 3, 10);
    }

    /** "4 for 0 if it is open, 1 if it was carried and 2 if it was lost" */
    static void promise21_motion_open_carriedAndLostAreTold() {
        BUSY.tells(1, "motion", 0, 4).tells(2, "motion", 1, 4).tells(0, "motion", 2, 4);
        BUSY.tells(1, "motion", 0, 9).tells(0, "motion", 1, 9);
        BUSY.then("close", 2).tells(1, "motion", 2, 4).then("undo").tells(0, "motion", 2, 4);
    }

    /** "5 for the heads for it, 6 for those against it, 7 for the shares for it, 8 for those against it" */
    static void promise21_motion_withoutVotesHeadsAndSharesAre0() {
        Scene scene = withShares(3, 4).then("move", 0, 0, 0, 1);
        for (int what = 5; what <= 9; what++) {
            scene.tells(0, "motion", 0, what);
        }
    }

    static void promise21_motion_allEightOwnersAndAllSharesVote() {
        Scene all = withEqualUnits(12).then("move", 0, 0, 0, 1);
        Scene votesFor = all;
        Scene against = all;
        for (int unit = 0; unit < 12; unit++) {
            votesFor = votesFor.then("vote", 0, unit, 1);
            against = against.then("vote", 0, unit, -1);
        }
        votesFor.tells(8, "motion", 0, 5).tells(0, "motion", 0, 6).tells(12, "motion", 0, 7).tells(0, "motion", 0, 8);
        against.tells(0, "motion", 0, 5).tells(8, "motion", 0, 6).tells(0, "motion", 0, 7).tells(12, "motion", 0, 8);
    }

    /** Each unit's shares count for its own vote, also if a lower unit of its owner votes otherwise. */
    static void promise21_motion_sharesAreOfUnits_headsOfOwners() {
        Scene scene = withShares(3, 4).then("setOwner", 1, 0).then("move", 0, 0, 0, 1).then("vote", 0, 0, 1)
                .then("vote", 0, 1, -1);
        scene.tells(1, "motion", 0, 5).tells(0, "motion", 0, 6).tells(3, "motion", 0, 7).tells(4, "motion", 0, 8);
    }

    /** "of whom the unit with the lowest number that votes": a lower one that is silent does not speak. */
    static void promise21_motion_aSilentLowerUnitLeavesTheHeadToAHigherOne() {
        Scene scene = withShares(3, 4, 5).then("setOwner", 1, 0).then("move", 0, 0, 0, 1);
        scene.then("vote", 0, 1, -1).tells(0, "motion", 0, 5).tells(1, "motion", 0, 6).tells(0, "motion", 0, 7)
                .tells(4, "motion", 0, 8);
        scene.then("vote", 0, 1, 1).tells(1, "motion", 0, 5).tells(0, "motion", 0, 6).tells(4, "motion", 0, 7)
                .tells(0, "motion", 0, 8);
    }

    /** "Owners can change while a motion is open; its heads are counted by the owners of now." */
    static void promise21_motion_theHeadsOfAnOpenOneAreByTheOwnersOfNow() {
        Scene scene = withShares(1, 1, 1).then("move", 0, 0, 0, 1).then("vote", 0, 0, 1).then("vote", 0, 1, 1)
                .then("vote", 0, 2, -1);
        scene.tells(2, "motion", 0, 5).tells(1, "motion", 0, 6).tells(1, "motion", 0, 9);
        scene.then("setOwner", 1, 0).tells(1, "motion", 0, 5).tells(1, "motion", 0, 6).tells(0, "motion", 0, 9);
        scene.then("setOwner", 2, 0).tells(2, "motion", 0, 5).tells(0, "motion", 0, 6).tells(1, "motion", 0, 9);
    }

    /** "Of a motion that is not open the votes are kept as they were; its heads and shares, too, are told by ... now" */
    static void promise21_motion_theHeadsOfAClosedOneAreByTheOwnersOfNow() {
        BUSY.tells(2, "motion", 0, 5).tells(300, "motion", 0, 7).tells(1, "voted", 0, 0).tells(1, "voted", 0, 1);
        BUSY.then("setOwner", 1, 0).tells(1, "motion", 0, 5).tells(300, "motion", 0, 7).tells(1, "motion", 0, 9);
        BUSY.then("addUnit", 0, 0, 300, 1).tells(2, "motion", 0, 5).tells(300, "motion", 0, 7).tells(0, "voted", 0, 5);
    }

    /** "9 for 1 if it could be carried now or was carried" */
    static void promise21_motion_9IsStill1OfACarriedOneThatCouldNotBeCarriedNow() {
        BUSY.then("set", 1, 61).tells(1, "motion", 0, 9).tells(0, "motion", 2, 9);
        BUSY.then("set", 1, 60).tells(1, "motion", 0, 9).tells(1, "motion", 2, 9);
    }

    /** "Of a motion that was lost, 9 is 0 also if it could be carried now." */
    static void promise21_motion_9IsStill0OfALostOneThatCouldBeCarriedNow() {
        Scene lost = withShares(49, 51).then("move", 0, 0, 0, 1).then("vote", 0, 0, 1).takes(0, "close", 0);
        lost.then("set", 1, 49).tells(0, "motion", 0, 9).tells(2, "motion", 0, 4);
        lost.then("undo").then("set", 1, 49).tells(1, "motion", 0, 9);
    }

    /** 9 does not look at the limits: a motion that close would refuse for reason 5 could be carried. */
    static void promise21_motion_9IsOfHeadsAndSharesOnly() {
        ALMOST_FULL_FUND.then("move", 0, 0, 1, 10).then("vote", 0, 0, 1).then("vote", 0, 1, 1).tells(1, "motion", 0, 9)
                .tells(0, "lacking", 0);
    }

    /** "if there is no such motion" */
    static void promise22_voted_motions0And2AreThere_motionsMinus1And3AreNot() {
        BUSY.onlyTells(1, "voted", 0, 1).onlyTells(-1, "voted", 2, 2);
        BUSY.fails(IOOBE, "voted", -1, 0).fails(IOOBE, "voted", 3, 0);
        BUSY.fails(IOOBE, "voted", LEAST_INT, 0).fails(IOOBE, "voted", GREATEST_INT, 0);
        withShares(1).fails(IOOBE, "voted", 0, 0);
        FULL.tells(1, "voted", 7, 11).fails(IOOBE, "voted", 8, 11);
    }

    /** "or unit" */
    static void promise22_voted_units0And4AreThere_unitsMinus1And5AreNot() {
        BUSY.onlyTells(1, "voted", 2, 0).onlyTells(0, "voted", 2, 4);
        BUSY.fails(IOOBE, "voted", 2, -1).fails(IOOBE, "voted", 2, 5).fails(IOOBE, "voted", 0, 5);
        BUSY.fails(IOOBE, "voted", 2, LEAST_INT).fails(IOOBE, "voted", 2, GREATEST_INT);
        BUSY.fails(IOOBE, "voted", 3, 5).fails(IOOBE, "voted", -1, -1);
        FULL.fails(IOOBE, "voted", 7, 12);
    }

    /** "0 without one" */
    static void promise22_voted_0WithoutAVote_orOnceItIsTakenBack() {
        BUSY.tells(0, "voted", 2, 4).then("vote", 2, 0, 0).tells(0, "voted", 2, 0).tells(1, "voted", 2, 1);
        BUSY.then("addUnit", 0, 0, 1, 0).tells(0, "voted", 2, 5).tells(0, "voted", 0, 5);
        BUSY.tells(-1, "voted", 1, 1).tells(0, "voted", 1, 0);
    }

    /** "if there is no such motion" */
    static void promise23_lacking_motions0And7AreThere_motionsMinus1And8AreNot() {
        Scene eight = withShares(1).times(8, "move", 0, 0, 0, 1);
        eight.onlyTells(1, "lacking", 0).onlyTells(1, "lacking", 7);
        eight.fails(IOOBE, "lacking", -1).fails(IOOBE, "lacking", 8);
        eight.fails(IOOBE, "lacking", LEAST_INT).fails(IOOBE, "lacking", GREATEST_INT);
        BUSY.fails(IOOBE, "lacking", 3);
        EMPTY.fails(IOOBE, "lacking", 0);
    }

    /** "if it is not open" */
    static void promise23_lacking_aCarriedOrLostMotionIsNotTold_anOpenOneIs() {
        BUSY.fails(ISE, "lacking", 0).fails(ISE, "lacking", 1).onlyTells(0, "lacking", 2);
        BUSY.then("close", 2).fails(ISE, "lacking", 2).then("undo").tells(0, "lacking", 2);
    }

    static void promise23_lacking_notOpenIsToldAheadOfCouldNotBeCarried() {
        Scene lost = withShares(1, 1).then("move", 0, 0, 0, 1).then("vote", 0, 0, -1);
        lost.fails(NSEE, "lacking", 0).then("close", 0).fails(ISE, "lacking", 0);
    }

    /** "0 if it could be carried now" */
    static void promise23_lacking_0IfItCouldBeCarriedNow_1IfOneUnitIsMissing() {
        voted(withShares(50, 50), 50, 1, 0).onlyTells(0, "lacking", 0);
        voted(withShares(49, 51), 50, 1, 0).onlyTells(1, "lacking", 0);
        voted(withShares(1, 1), 0, 0, 0).tells(1, "lacking", 0);
        voted(withShares(1, 1), 0, 1, 0).tells(0, "lacking", 0);
    }

    static void promise23_lacking_0IfItCouldBeCarriedNow_alsoIfLowerUnitsAreSilent() {
        Scene scene = withShares(1, 1, 2).then("move", 0, 0, 0, 1).then("vote", 0, 2, 1).tells(0, "lacking", 0);
        scene.then("set", 1, 51).tells(1, "lacking", 0).then("set", 1, 76).tells(2, "lacking", 0);
    }

    /** "in ascending order": a greater unit behind a lesser one does not come first. */
    static void promise23_lacking_theLowerUnitsComeFirst() {
        voted(withShares(1, 1, 1, 97), 97, 0, 0).tells(4, "lacking", 0);
        voted(withShares(97, 1, 1, 1), 97, 0, 0).tells(1, "lacking", 0);
        voted(withShares(1, 97, 1, 1), 98, 0, 0).tells(2, "lacking", 0);
        voted(withShares(1, 97, 1, 1), 99, 0, 0).tells(3, "lacking", 0);
    }

    /** "further units": those that vote already are not counted. */
    static void promise23_lacking_unitsThatVoteAreNotCounted() {
        Scene scene = withEqualUnits(6).then("set", 1, 50).then("move", 0, 0, 0, 1);
        scene.tells(3, "lacking", 0);
        scene.then("vote", 0, 0, 1).tells(2, "lacking", 0).then("vote", 0, 5, 1).tells(1, "lacking", 0)
                .then("vote", 0, 1, 1).tells(0, "lacking", 0);
        scene.then("vote", 0, 0, -1).tells(3, "lacking", 0).then("vote", 0, 1, -1).tells(3, "lacking", 0)
                .then("vote", 0, 2, -1).fails(NSEE, "lacking", 0);
    }

    /** "if it could not be carried even if all of these voted for it": the quota is reached by all, or just not. */
    static void promise23_lacking_allOfTheseReachTheQuotaExactly_orAShareTooLittle() {
        voted(withShares(1, 49, 50), 99, 0, 1).tells(2, "lacking", 0);
        voted(withShares(1, 49, 50), 100, 0, 1).fails(NSEE, "lacking", 0);
        voted(withShares(50, 25, 25), 50, 0, 1).tells(2, "lacking", 0);
        voted(withShares(51, 25, 24), 50, 0, 1).fails(NSEE, "lacking", 0);
        voted(withEqualUnits(12), 100, 0, 0).tells(12, "lacking", 0);
        voted(withEqualUnits(12), 100, 11, 0).tells(1, "lacking", 0);
        voted(withEqualUnits(12), 100, 12, 0).tells(0, "lacking", 0);
    }

    /** The heads are just more than those against it, or just as many. */
    static void promise23_lacking_allOfTheseAreOneHeadMore_orAsMany() {
        voted(withShares(1, 1, 1), 0, 0, 1).tells(2, "lacking", 0);
        voted(withShares(1, 1), 0, 0, 1).fails(NSEE, "lacking", 0);
        voted(withShares(1, 1, 1, 1), 0, 0, 2).fails(NSEE, "lacking", 0);
        voted(withShares(1, 1, 1, 1, 1), 0, 0, 2).tells(3, "lacking", 0);
    }

    /** "Votes of owners whose lower unit votes against stay against it in lacking." */
    static void promise23_lacking_aLowerUnitThatVotesAgainstKeepsItsOwnerAgainst() {
        Scene units = withShares(1, 1, 1).then("setOwner", 1, 0).then("set", 1, 0).then("move", 0, 0, 0, 1);
        units.then("vote", 0, 0, -1).fails(NSEE, "lacking", 0);
        units.then("vote", 0, 1, -1).tells(1, "lacking", 0);
        units.then("vote", 0, 2, -1).fails(NSEE, "lacking", 0);
        units.then("vote", 0, 2, -1).then("setOwner", 1, 5).tells(2, "lacking", 0);
    }

    /** A further unit counts with its shares, though its owner's lower unit keeps the head against it. */
    static void promise23_lacking_theSharesOfSuchAUnitCountForIt() {
        Scene scene = withShares(10, 40, 10, 40).then("setOwner", 1, 0).then("set", 1, 90).then("move", 0, 0, 0, 1)
                .then("vote", 0, 0, -1);
        scene.tells(3, "lacking", 0).then("set", 1, 91).fails(NSEE, "lacking", 0);
        scene.then("set", 1, 50).tells(3, "lacking", 0);
    }

    static void promise23_lacking_makesNoVotes() {
        voted(withShares(1, 1, 1), 100, 1, 0).onlyTells(2, "lacking", 0).then("lacking", 0).tells(0, "voted", 0, 1)
                .tells(1, "motion", 0, 7);
    }
}
