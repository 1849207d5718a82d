/**
 * The scenes that the tests of edges share. The methods of the classes below it are tests, each of one sentence of the
 * document that names an edge; the name tells the promise, the call and the case, and the comment quotes the sentence.
 */
abstract class Edges {
    static final Class<IllegalArgumentException> IAE = IllegalArgumentException.class;
    static final Class<IllegalStateException> ISE = IllegalStateException.class;
    static final Class<IndexOutOfBoundsException> IOOBE = IndexOutOfBoundsException.class;
    static final Class<java.util.NoSuchElementException> NSEE = java.util.NoSuchElementException.class;

    static final int MOST = 9999999;
    static final int LEAST_INT = Integer.MIN_VALUE;
    static final int GREATEST_INT = Integer.MAX_VALUE;

    static final Scene EMPTY = new Scene();

    /** Five units, a carried, a lost and an open motion, three costs, a snapshot, eight changes behind it, reason 3. */
    static final Scene READY = ready();

    /** The same with a text in the buffer that one more "0" would end. */
    static final Scene BUSY = READY.write("a:0=1.0");

    /** 12 units, 20 costs and 8 motions. */
    static final Scene FULL = full();

    /** A unit of one share on each stair, unit n on the place n. */
    static final Scene NINE_STAIRS = nineStairs();

    /** Unit 0 has paid up to 9 cents below the greatest account; unit 1 has paid nothing. */
    static final Scene ALMOST_RICHEST = withShares(1, 1).times(10, "pay", 0, MOST);

    /** Units 0 and 1 in house 0 are 19 cents above the least account, unit 2 in house 1 is not; fund 0 has 300. */
    static final Scene ALMOST_POOREST = almostPoorest();

    /** All units have been charged 99 cents less than the most; fund 1 has 12. */
    static final Scene ALMOST_ALL_CHARGED = almostAllCharged();

    /** All units have paid 99 cents less than the most; unit 11 has paid nothing. */
    static final Scene ALMOST_ALL_PAID = almostAllPaid();

    /** Fund 1 has 9 cents less than the most. */
    static final Scene ALMOST_FULL_FUND = withShares(1, 1, 1).times(10, "fund", 1, MOST);

    /** Units with these shares in house 0 on stair 0, unit n of owner n. */
    static Scene withShares(int... shares) {
        Scene scene = EMPTY;
        for (int unit = 0; unit < shares.length; unit++) {
            scene = scene.then("addUnit", 0, 0, shares[unit], unit % 8);
        }
        return scene;
    }

    static Scene withEqualUnits(int units) {
        int[] shares = new int[units];
        java.util.Arrays.fill(shares, 1);
        return withShares(shares);
    }

    /** What is charged to the units is due there. */
    static void charged(Scene scene, int... due) {
        for (int unit = 0; unit < due.length; unit++) {
            scene.tells(due[unit], "unit", unit, 8);
        }
    }

    static void parts(Scene scene, int cost, int... due) {
        for (int unit = 0; unit < due.length; unit++) {
            scene.tells(due[unit], "part", cost, unit);
        }
    }

    private static Scene ready() {
        Scene scene = EMPTY.then("addUnit", 0, 0, 100, 0).then("addUnit", 0, 1, 200, 1).then("addUnit", 1, 0, 40, 2)
                .then("addUnit", 1, 2, 100, 0).then("addUnit", 0, 1, 60, 5);
        scene = scene.then("set", 0, 40).then("set", 1, 30).then("read", 0, 100).then("read", 2, 50);
        scene = scene.then("fund", 0, 1000).then("fund", 3, 500).then("book", 4, 0, 1, 700, false);
        scene = scene.then("read", 0, 130).then("read", 3, 7).then("book", 1, 1, 2, 99, false);
        scene = scene.then("move", 0, 0, 0, 300).then("vote", 0, 0, 1).then("vote", 0, 1, 1).then("close", 0);
        scene = scene.then("move", 3, 0, 4, 50).then("vote", 1, 1, -1).then("close", 1);
        scene = scene.then("move", 2, 1, 3, 80).then("vote", 2, 0, 1).then("vote", 2, 2, -1).then("save");
        scene = scene.then("pay", 0, 250).then("setOwner", 4, 3).then("book", 0, 0, 0, 40, true);
        scene = scene.then("vote", 2, 3, -1).then("vote", 2, 1, 1).then("set", 0, 45).then("pay", 1, 1000);
        return scene.then("read", 2, 60).then("close", 1);
    }

    private static Scene full() {
        Scene scene = EMPTY;
        for (int unit = 0; unit < 12; unit++) {
            scene = scene.then("addUnit", unit / 6, unit % 3, 10 + unit, unit % 8);
        }
        scene = scene.then("fund", 1, 70);
        for (int cost = 0; cost < 20; cost++) {
            scene = scene.then("book", cost % 5 < 3 ? 0 : cost % 5, 0, cost % 5, 1000 + cost, cost % 2 == 0);
        }
        for (int motion = 0; motion < 8; motion++) {
            scene = scene.then("move", 0, 0, motion % 5, 500 + motion).then("vote", motion, motion + 4, 1);
        }
        return scene.then("close", 6).then("save").then("read", 11, 9).then("pay", 3, 77).then("close", 7);
    }

    private static Scene nineStairs() {
        Scene scene = EMPTY;
        for (int place = 0; place <= 8; place++) {
            scene = scene.then("addUnit", place / 3, place % 3, 1, 0);
        }
        return scene;
    }

    private static Scene almostPoorest() {
        Scene scene = EMPTY.then("addUnit", 0, 0, 1, 0).then("addUnit", 0, 1, 1, 1).then("addUnit", 1, 0, 1, 2);
        scene = scene.then("fund", 0, 300).then("pay", 0, 100).then("pay", 1, 100);
        return scene.times(20, "book", 1, 0, 1, MOST - 1, false);
    }

    private static Scene almostAllCharged() {
        Scene scene = withEqualUnits(12).then("fund", 1, 12).then("book", 3, 0, 0, MOST - 12, false);
        return scene.times(99, "book", 3, 0, 0, MOST, false);
    }

    private static Scene almostAllPaid() {
        Scene scene = withEqualUnits(12);
        for (int unit = 0; unit < 10; unit++) {
            scene = scene.times(10, "pay", unit, MOST);
        }
        return scene;
    }
}
