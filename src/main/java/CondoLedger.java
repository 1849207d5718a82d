import java.util.NoSuchElementException;

public final class CondoLedger {
    private static final int MAX_UNITS = 12;
    private static final int HOUSES = 3;
    private static final int STAIRS = 3;
    private static final int OWNERS = 8;
    private static final int MAX_SHARES = 300;
    private static final int MAX_READING = 99999;

    private static final int BY_SHARES = 0;
    private static final int OF_HOUSE = 1;
    private static final int OF_STAIR = 2;
    private static final int EQUALLY = 3;
    private static final int BY_METERS = 4;

    private static final int PURPOSES = 5;
    private static final int SETTINGS = 2;
    private static final int BASE_RATE = 0;
    private static final int QUOTA = 1;
    private static final int HUNDRED = 100;

    private static final int MAX_AMOUNT = 9999999;
    private static final int MAX_ACCOUNT = 99999999;
    private static final int MAX_BALANCE = 99999999;
    private static final int MAX_TOTAL = 999999999;

    private static final int MAX_COSTS = 20;
    private static final int MAX_MOTIONS = 8;
    private static final int MAX_CHANGES = 8;
    private static final int MAX_SIGNS = 60;

    private static final int OPEN = 0;
    private static final int CARRIED = 1;
    private static final int LOST = 2;

    private static final int FOR = 1;
    private static final int AGAINST = -1;

    private static final int NO_REASON = 0;
    private static final int NO_UNIT = 1;
    private static final int BAD_AMOUNT = 2;
    private static final int NOT_OPEN = 3;
    private static final int TOO_MANY_MOTIONS = 4;
    private static final int BEYOND_LIMITS = 5;

    private static final int NO_FAULT = -1;
    private static final int WHOLE_HOUSE = -1;

    private final Ledger now;
    private final Ledger draft;
    private final Ledger snapshot;
    private boolean isSaved;
    private final History history;
    private final CostText text;
    private int faultAt;
    private int latestReason;

    public CondoLedger() {
        Divider divider = new Divider();
        now = new Ledger(divider);
        draft = new Ledger(divider);
        snapshot = new Ledger(divider);
        history = new History(divider);
        text = new CostText();
        faultAt = NO_FAULT;
        latestReason = NO_REASON;
    }

    // Units

    public int addUnit(int house, int stair, int shares, int owner)
            throws IllegalArgumentException, IllegalStateException {
        if (!isHouse(house) || !isStair(stair) || !isWithin(shares, 1, MAX_SHARES) || !isOwner(owner)) {
            throw new IllegalArgumentException("a number is out of range");
        }
        if (now.units.count >= MAX_UNITS) {
            throw new IllegalStateException("12 units were made");
        }
        history.keep(now);
        return now.units.add(house, stair, shares, owner);
    }

    public int setOwner(int unit, int owner) throws IndexOutOfBoundsException, IllegalArgumentException {
        checkUnit(unit);
        checkOwner(owner);
        history.keep(now);
        int before = now.units.ownerOf[unit];
        now.units.ownerOf[unit] = owner;
        return before;
    }

    public int set(int setting, int value) throws IndexOutOfBoundsException, IllegalArgumentException {
        if (!isWithin(setting, 0, SETTINGS - 1)) {
            throw new IndexOutOfBoundsException("there is no such setting");
        }
        if (!isWithin(value, 0, HUNDRED)) {
            throw new IllegalArgumentException("the value is out of range");
        }
        history.keep(now);
        int before = now.settings[setting];
        now.settings[setting] = value;
        return before;
    }

    public int read(int unit, int reading) throws IndexOutOfBoundsException, IllegalArgumentException {
        checkUnit(unit);
        if (!isWithin(reading, now.units.readingOf[unit], MAX_READING)) {
            throw new IllegalArgumentException("the reading is out of range");
        }
        history.keep(now);
        now.units.readingOf[unit] = reading;
        return now.units.useOf(unit);
    }

    public int unit(int unit, int what) throws IndexOutOfBoundsException, IllegalArgumentException {
        checkUnit(unit);
        switch (what) {
            case 0: return now.units.houseOf[unit];
            case 1: return now.units.stairOf[unit];
            case 2: return now.units.sharesOf[unit];
            case 3: return now.units.ownerOf[unit];
            case 4: return now.units.readingOf[unit];
            case 5: return now.units.useOf(unit);
            case 6: return now.units.accountOf(unit);
            case 7: return now.units.paidBy[unit];
            case 8: return now.units.chargedTo[unit];
            default: throw new IllegalArgumentException("what is not from 0 to 8");
        }
    }

    public int owned(int owner) throws IllegalArgumentException {
        checkOwner(owner);
        return now.units.sumAccountsOf(owner);
    }

    public int debtor() throws NoSuchElementException {
        if (now.units.count == 0) {
            throw new NoSuchElementException("there are no units");
        }
        return now.units.findLeastAccount();
    }

    public int shares(int house, int stair) throws IllegalArgumentException {
        if (!isHouse(house) || (stair != WHOLE_HOUSE && !isStair(stair))) {
            throw new IllegalArgumentException("there is no such house or stair");
        }
        return now.units.sumSharesAt(house, stair);
    }

    // Costs and funds

    public int pay(int unit, int amount) throws IndexOutOfBoundsException, UnsupportedOperationException {
        checkUnit(unit);
        refuseFor(now.reasonAgainstPayment(unit, amount));
        history.keep(now);
        now.units.paidBy[unit] += amount;
        return now.units.accountOf(unit);
    }

    public int book(int kind, int place, int purpose, int amount, boolean isFunded)
            throws IllegalArgumentException, UnsupportedOperationException {
        checkKindAndPlace(kind, BY_METERS, place);
        checkPurpose(purpose);
        refuseFor(now.reasonAgainstCost(kind, place, purpose, amount, isFunded));
        history.keep(now);
        return now.takeCost(kind, place, purpose, amount, isFunded);
    }

    public int cost(int cost, int what) throws IndexOutOfBoundsException, IllegalArgumentException {
        checkCost(cost);
        if (!isWithin(what, 0, Costs.NUMBERS - 1)) {
            throw new IllegalArgumentException("what is not from 0 to 5");
        }
        return now.costs.numberOf(cost, what);
    }

    public int part(int cost, int unit) throws IndexOutOfBoundsException {
        checkCost(cost);
        checkUnit(unit);
        return now.costs.partOf(cost, unit);
    }

    public int wouldPay(int kind, int place, int amount, int unit)
            throws IndexOutOfBoundsException, IllegalArgumentException, NoSuchElementException {
        checkUnit(unit);
        checkKindAndPlace(kind, BY_METERS, place);
        if (!isWithin(amount, 1, MAX_AMOUNT)) {
            throw new IllegalArgumentException("the amount is out of range");
        }
        if (now.units.countConcerned(kind, place) == 0) {
            throw new NoSuchElementException("there is no unit that it concerns");
        }
        return now.partIfDivided(kind, place, amount, unit);
    }

    public int fund(int purpose, int amount) throws IllegalArgumentException, UnsupportedOperationException {
        checkPurpose(purpose);
        refuseFor(now.reasonAgainstOrder(BY_SHARES, 0, amount));
        refuseFor(now.reasonAgainstLevy(BY_SHARES, 0, purpose, amount));
        history.keep(now);
        now.takeLevy(BY_SHARES, 0, purpose, amount);
        return now.balances[purpose];
    }

    public int balance(int purpose) throws IllegalArgumentException {
        checkPurpose(purpose);
        return now.balances[purpose];
    }

    public int refusal() throws NoSuchElementException {
        if (latestReason == NO_REASON) {
            throw new NoSuchElementException("nothing was refused");
        }
        return latestReason;
    }

    // Motions

    public int move(int kind, int place, int purpose, int amount)
            throws IllegalArgumentException, UnsupportedOperationException {
        checkKindAndPlace(kind, EQUALLY, place);
        checkPurpose(purpose);
        refuseFor(now.reasonAgainstOrder(kind, place, amount));
        refuseFor(now.motions.count >= MAX_MOTIONS ? TOO_MANY_MOTIONS : NO_REASON);
        history.keep(now);
        return now.motions.add(kind, place, purpose, amount);
    }

    public int vote(int motion, int unit, int vote)
            throws IndexOutOfBoundsException, IllegalArgumentException, UnsupportedOperationException {
        checkUnit(unit);
        if (!isWithin(vote, AGAINST, FOR)) {
            throw new IllegalArgumentException("vote is not from -1 to 1");
        }
        refuseFor(now.motions.isOpen(motion) ? NO_REASON : NOT_OPEN);
        history.keep(now);
        int before = now.motions.voteOf(motion, unit);
        now.motions.putVote(motion, unit, vote);
        return before;
    }

    public int close(int motion) throws UnsupportedOperationException {
        refuseFor(now.motions.isOpen(motion) ? NO_REASON : NOT_OPEN);
        boolean isCarried = now.canBeCarried(motion, 0);
        if (isCarried) {
            refuseFor(now.reasonAgainstCarrying(motion));
        }
        history.keep(now);
        now.endMotion(motion, isCarried);
        return isCarried ? 1 : 0;
    }

    public int motion(int motion, int what) throws IndexOutOfBoundsException, IllegalArgumentException {
        checkMotion(motion);
        switch (what) {
            case 0: return now.motions.numberOf(motion, Motions.KIND);
            case 1: return now.motions.numberOf(motion, Motions.PLACE);
            case 2: return now.motions.numberOf(motion, Motions.PURPOSE);
            case 3: return now.motions.numberOf(motion, Motions.AMOUNT);
            case 4: return now.motions.numberOf(motion, Motions.STATE);
            case 5: return now.countHeads(motion, FOR, 0);
            case 6: return now.countHeads(motion, AGAINST, 0);
            case 7: return now.sumSharesVoting(motion, FOR, 0);
            case 8: return now.sumSharesVoting(motion, AGAINST, 0);
            case 9: return now.isOrCanBeCarried(motion) ? 1 : 0;
            default: throw new IllegalArgumentException("what is not from 0 to 9");
        }
    }

    public int voted(int motion, int unit) throws IndexOutOfBoundsException {
        checkMotion(motion);
        checkUnit(unit);
        return now.motions.voteOf(motion, unit);
    }

    public int lacking(int motion)
            throws IndexOutOfBoundsException, IllegalStateException, NoSuchElementException {
        checkMotion(motion);
        if (!now.motions.isOpen(motion)) {
            throw new IllegalStateException("the motion is not open");
        }
        for (int joining = 0; joining <= now.units.count; joining++) {
            if (now.canBeCarried(motion, joining)) {
                return now.countSilentBelow(motion, joining);
            }
        }
        throw new NoSuchElementException("it could not be carried");
    }

    // Texts

    public void append(char c) throws IllegalStateException {
        if (text.length >= MAX_SIGNS) {
            throw new IllegalStateException("the buffer contains 60 characters");
        }
        text.put(c);
    }

    public int bookAll() throws IllegalArgumentException, UnsupportedOperationException {
        faultAt = text.findFault();
        if (faultAt != NO_FAULT) {
            text.empty();
            throw new IllegalArgumentException("the text has a fault");
        }
        // A draft takes the costs, since a later one may be refused and then none may stay.
        draft.copyFrom(now);
        int count = 0;
        int reason = NO_REASON;
        text.startAgain();
        for (int i = 0; i < MAX_SIGNS && reason == NO_REASON && text.takeNextCost(); i++) {
            reason = draft.reasonAgainstCost(text.kind, text.place, text.purpose, text.amount, text.isFunded);
            if (reason == NO_REASON) {
                draft.takeCost(text.kind, text.place, text.purpose, text.amount, text.isFunded);
                count++;
            }
        }
        text.empty();
        refuseFor(reason);
        history.keep(now);
        now.copyFrom(draft);
        return count;
    }

    public int faultPosition() {
        return faultAt;
    }

    // Accounts, undo and snapshot

    public int account(int what) throws IllegalArgumentException {
        switch (what) {
            case 0: return now.units.count;
            case 1: return now.units.sumShares();
            case 2: return now.units.countOwners();
            case 3: return now.costs.count;
            case 4: return now.motions.count;
            case 5: return now.motions.countOpen();
            case 6: return now.units.sumPaid() - now.units.sumCharged();
            case 7: return now.sumBalances();
            case 8: return now.units.sumPaid();
            case 9: return now.units.sumCharged();
            case 10: return now.paidByFunds;
            default: throw new IllegalArgumentException("what is not from 0 to 10");
        }
    }

    public double share(int unit) throws IndexOutOfBoundsException {
        checkUnit(unit);
        return (double) now.units.sharesOf[unit] / (double) now.units.sumShares();
    }

    public int undo() throws IllegalStateException {
        if (history.kept == 0) {
            throw new IllegalStateException("no change is kept");
        }
        history.takeBack(now);
        return history.kept;
    }

    public void save() {
        snapshot.copyFrom(now);
        isSaved = true;
    }

    public void restore() throws IllegalStateException {
        if (!isSaved) {
            throw new IllegalStateException("there is no snapshot");
        }
        now.copyFrom(snapshot);
        history.forget();
    }

    // What several calls test

    private static boolean isWithin(int number, int least, int greatest) {
        return number >= least && number <= greatest;
    }

    private static boolean isHouse(int house) {
        return isWithin(house, 0, HOUSES - 1);
    }

    private static boolean isStair(int stair) {
        return isWithin(stair, 0, STAIRS - 1);
    }

    private static boolean isOwner(int owner) {
        return isWithin(owner, 0, OWNERS - 1);
    }

    private static boolean isPlaceOf(int kind, int place) {
        switch (kind) {
            case OF_HOUSE: return isHouse(place);
            case OF_STAIR: return isWithin(place, 0, HOUSES * STAIRS - 1);
            default: return place == 0;
        }
    }

    private static void checkOwner(int owner) {
        if (!isOwner(owner)) {
            throw new IllegalArgumentException("the owner is out of range");
        }
    }

    private static void checkKindAndPlace(int kind, int greatestKind, int place) {
        if (!isWithin(kind, 0, greatestKind)) {
            throw new IllegalArgumentException("there is no such kind");
        }
        if (!isPlaceOf(kind, place)) {
            throw new IllegalArgumentException("the place does not fit the kind");
        }
    }

    private static void checkPurpose(int purpose) {
        if (!isWithin(purpose, 0, PURPOSES - 1)) {
            throw new IllegalArgumentException("there is no such purpose");
        }
    }

    private void checkUnit(int unit) {
        if (!isWithin(unit, 0, now.units.count - 1)) {
            throw new IndexOutOfBoundsException("there is no such unit");
        }
    }

    private void checkCost(int cost) {
        if (!isWithin(cost, 0, now.costs.count - 1)) {
            throw new IndexOutOfBoundsException("there is no such cost");
        }
    }

    private void checkMotion(int motion) {
        if (!now.motions.isMade(motion)) {
            throw new IndexOutOfBoundsException("there is no such motion");
        }
    }

    private void refuseFor(int reason) {
        if (reason != NO_REASON) {
            latestReason = reason;
            throw new UnsupportedOperationException("it is refused");
        }
    }

    private static final class Units {
        int count;
        final int[] houseOf = new int[MAX_UNITS];
        final int[] stairOf = new int[MAX_UNITS];
        final int[] sharesOf = new int[MAX_UNITS];
        final int[] ownerOf = new int[MAX_UNITS];
        final int[] readingOf = new int[MAX_UNITS];
        final int[] billedOf = new int[MAX_UNITS];
        final int[] paidBy = new int[MAX_UNITS];
        final int[] chargedTo = new int[MAX_UNITS];

        void copyFrom(Units other) {
            count = other.count;
            System.arraycopy(other.houseOf, 0, houseOf, 0, MAX_UNITS);
            System.arraycopy(other.stairOf, 0, stairOf, 0, MAX_UNITS);
            System.arraycopy(other.sharesOf, 0, sharesOf, 0, MAX_UNITS);
            System.arraycopy(other.ownerOf, 0, ownerOf, 0, MAX_UNITS);
            System.arraycopy(other.readingOf, 0, readingOf, 0, MAX_UNITS);
            System.arraycopy(other.billedOf, 0, billedOf, 0, MAX_UNITS);
            System.arraycopy(other.paidBy, 0, paidBy, 0, MAX_UNITS);
            System.arraycopy(other.chargedTo, 0, chargedTo, 0, MAX_UNITS);
        }

        int add(int house, int stair, int shares, int owner) {
            int unit = count;
            houseOf[unit] = house;
            stairOf[unit] = stair;
            sharesOf[unit] = shares;
            ownerOf[unit] = owner;
            readingOf[unit] = 0;
            billedOf[unit] = 0;
            paidBy[unit] = 0;
            chargedTo[unit] = 0;
            count++;
            return unit;
        }

        int useOf(int unit) {
            return readingOf[unit] - billedOf[unit];
        }

        int accountOf(int unit) {
            return paidBy[unit] - chargedTo[unit];
        }

        int sumAccountsOf(int owner) {
            int sum = 0;
            for (int unit = 0; unit < count; unit++) {
                if (ownerOf[unit] == owner) {
                    sum += accountOf(unit);
                }
            }
            return sum;
        }

        int findLeastAccount() {
            int least = 0;
            for (int unit = 1; unit < count; unit++) {
                if (accountOf(unit) < accountOf(least)) {
                    least = unit;
                }
            }
            return least;
        }

        int sumSharesAt(int house, int stair) {
            int sum = 0;
            for (int unit = 0; unit < count; unit++) {
                if (houseOf[unit] == house && (stair == WHOLE_HOUSE || stairOf[unit] == stair)) {
                    sum += sharesOf[unit];
                }
            }
            return sum;
        }

        int sumShares() {
            return sum(sharesOf);
        }

        int sumPaid() {
            return sum(paidBy);
        }

        int sumCharged() {
            return sum(chargedTo);
        }

        int countOwners() {
            int owners = 0;
            for (int owner = 0; owner < OWNERS; owner++) {
                if (hasUnit(owner)) {
                    owners++;
                }
            }
            return owners;
        }

        boolean isConcerned(int unit, int kind, int place) {
            switch (kind) {
                case OF_HOUSE: return houseOf[unit] == place;
                case OF_STAIR: return houseOf[unit] * STAIRS + stairOf[unit] == place;
                default: return true;
            }
        }

        int countConcerned(int kind, int place) {
            int concerned = 0;
            for (int unit = 0; unit < count; unit++) {
                if (isConcerned(unit, kind, place)) {
                    concerned++;
                }
            }
            return concerned;
        }

        boolean hasAnyUse() {
            for (int unit = 0; unit < count; unit++) {
                if (useOf(unit) > 0) {
                    return true;
                }
            }
            return false;
        }

        void charge(int[] parts) {
            for (int unit = 0; unit < count; unit++) {
                chargedTo[unit] += parts[unit];
            }
        }

        void billMeters() {
            System.arraycopy(readingOf, 0, billedOf, 0, MAX_UNITS);
        }

        private boolean hasUnit(int owner) {
            for (int unit = 0; unit < count; unit++) {
                if (ownerOf[unit] == owner) {
                    return true;
                }
            }
            return false;
        }

        private int sum(int[] column) {
            int sum = 0;
            for (int unit = 0; unit < count; unit++) {
                sum += column[unit];
            }
            return sum;
        }
    }

    private static final class Costs {
        static final int NUMBERS = 6;
        static final int KIND = 0;
        static final int PLACE = 1;
        static final int PURPOSE = 2;
        static final int AMOUNT = 3;
        static final int FROM_FUND = 4;
        static final int CONCERNED = 5;

        int count;
        final int[] numbers = new int[MAX_COSTS * NUMBERS];
        final int[] parts = new int[MAX_COSTS * MAX_UNITS];

        void copyFrom(Costs other) {
            count = other.count;
            System.arraycopy(other.numbers, 0, numbers, 0, MAX_COSTS * NUMBERS);
            System.arraycopy(other.parts, 0, parts, 0, MAX_COSTS * MAX_UNITS);
        }

        /** Adds a cost whose numbers are put next, and returns its number. */
        int add(int[] partsOfUnits) {
            if (count >= MAX_COSTS) {
                dropOldest();
            }
            int cost = count;
            System.arraycopy(partsOfUnits, 0, parts, cost * MAX_UNITS, MAX_UNITS);
            count++;
            return cost;
        }

        void putNumber(int cost, int what, int number) {
            numbers[cost * NUMBERS + what] = number;
        }

        int numberOf(int cost, int what) {
            return numbers[cost * NUMBERS + what];
        }

        int partOf(int cost, int unit) {
            return parts[cost * MAX_UNITS + unit];
        }

        private void dropOldest() {
            count = MAX_COSTS - 1;
            System.arraycopy(numbers, NUMBERS, numbers, 0, count * NUMBERS);
            System.arraycopy(parts, MAX_UNITS, parts, 0, count * MAX_UNITS);
        }
    }

    private static final class Motions {
        static final int NUMBERS = 5;
        static final int KIND = 0;
        static final int PLACE = 1;
        static final int PURPOSE = 2;
        static final int AMOUNT = 3;
        static final int STATE = 4;

        int count;
        final int[] numbers = new int[MAX_MOTIONS * NUMBERS];
        final int[] votes = new int[MAX_MOTIONS * MAX_UNITS];

        void copyFrom(Motions other) {
            count = other.count;
            System.arraycopy(other.numbers, 0, numbers, 0, MAX_MOTIONS * NUMBERS);
            System.arraycopy(other.votes, 0, votes, 0, MAX_MOTIONS * MAX_UNITS);
        }

        int add(int kind, int place, int purpose, int amount) {
            int motion = count;
            putNumber(motion, KIND, kind);
            putNumber(motion, PLACE, place);
            putNumber(motion, PURPOSE, purpose);
            putNumber(motion, AMOUNT, amount);
            putNumber(motion, STATE, OPEN);
            for (int unit = 0; unit < MAX_UNITS; unit++) {
                putVote(motion, unit, 0);
            }
            count++;
            return motion;
        }

        boolean isMade(int motion) {
            return isWithin(motion, 0, count - 1);
        }

        boolean isOpen(int motion) {
            return isMade(motion) && numberOf(motion, STATE) == OPEN;
        }

        int countOpen() {
            int open = 0;
            for (int motion = 0; motion < count; motion++) {
                if (isOpen(motion)) {
                    open++;
                }
            }
            return open;
        }

        int numberOf(int motion, int what) {
            return numbers[motion * NUMBERS + what];
        }

        void putNumber(int motion, int what, int number) {
            numbers[motion * NUMBERS + what] = number;
        }

        int voteOf(int motion, int unit) {
            return votes[motion * MAX_UNITS + unit];
        }

        void putVote(int motion, int unit, int vote) {
            votes[motion * MAX_UNITS + unit] = vote;
        }
    }

    /** All that a change can alter, so that a copy of it is what undo and restore need. */
    private static final class Ledger {
        final Units units = new Units();
        final Costs costs = new Costs();
        final Motions motions = new Motions();
        final int[] balances = new int[PURPOSES];
        final int[] settings = new int[SETTINGS];
        int paidByFunds;
        private final Divider divider;

        Ledger(Divider divider) {
            this.divider = divider;
            settings[BASE_RATE] = 30;
            settings[QUOTA] = 50;
        }

        void copyFrom(Ledger other) {
            units.copyFrom(other.units);
            costs.copyFrom(other.costs);
            motions.copyFrom(other.motions);
            System.arraycopy(other.balances, 0, balances, 0, PURPOSES);
            System.arraycopy(other.settings, 0, settings, 0, SETTINGS);
            paidByFunds = other.paidByFunds;
        }

        int sumBalances() {
            int sum = 0;
            for (int purpose = 0; purpose < PURPOSES; purpose++) {
                sum += balances[purpose];
            }
            return sum;
        }

        int reasonAgainstPayment(int unit, int amount) {
            if (!isWithin(amount, 1, MAX_AMOUNT)) {
                return BAD_AMOUNT;
            }
            boolean isBeyond = units.accountOf(unit) + amount > MAX_ACCOUNT
                    || units.sumPaid() + amount > MAX_TOTAL;
            return isBeyond ? BEYOND_LIMITS : NO_REASON;
        }

        int reasonAgainstOrder(int kind, int place, int amount) {
            if (units.countConcerned(kind, place) == 0) {
                return NO_UNIT;
            }
            return isWithin(amount, 1, MAX_AMOUNT) ? NO_REASON : BAD_AMOUNT;
        }

        int reasonAgainstCost(int kind, int place, int purpose, int amount, boolean isFunded) {
            int reason = reasonAgainstOrder(kind, place, amount);
            if (reason != NO_REASON) {
                return reason;
            }
            int rest = amount - payableByFund(purpose, amount, isFunded);
            return canCharge(kind, place, rest) ? NO_REASON : BEYOND_LIMITS;
        }

        /** Books a cost that is not refused, and returns what its fund pays. */
        int takeCost(int kind, int place, int purpose, int amount, boolean isFunded) {
            int fromFund = payableByFund(purpose, amount, isFunded);
            int rest = amount - fromFund;
            balances[purpose] -= fromFund;
            paidByFunds += fromFund;
            divider.divide(units, settings[BASE_RATE], kind, place, rest);
            units.charge(divider.parts);
            if (kind == BY_METERS && rest > 0) {
                units.billMeters();
            }
            int cost = costs.add(divider.parts);
            costs.putNumber(cost, Costs.KIND, kind);
            costs.putNumber(cost, Costs.PLACE, place);
            costs.putNumber(cost, Costs.PURPOSE, purpose);
            costs.putNumber(cost, Costs.AMOUNT, amount);
            costs.putNumber(cost, Costs.FROM_FUND, fromFund);
            costs.putNumber(cost, Costs.CONCERNED, units.countConcerned(kind, place));
            return fromFund;
        }

        int partIfDivided(int kind, int place, int amount, int unit) {
            divider.divide(units, settings[BASE_RATE], kind, place, amount);
            return divider.parts[unit];
        }

        int reasonAgainstLevy(int kind, int place, int purpose, int amount) {
            boolean isPossible = canCharge(kind, place, amount) && balances[purpose] + amount <= MAX_BALANCE;
            return isPossible ? NO_REASON : BEYOND_LIMITS;
        }

        void takeLevy(int kind, int place, int purpose, int amount) {
            divider.divide(units, settings[BASE_RATE], kind, place, amount);
            units.charge(divider.parts);
            balances[purpose] += amount;
        }

        int reasonAgainstCarrying(int motion) {
            return reasonAgainstLevy(motions.numberOf(motion, Motions.KIND),
                    motions.numberOf(motion, Motions.PLACE),
                    motions.numberOf(motion, Motions.PURPOSE),
                    motions.numberOf(motion, Motions.AMOUNT));
        }

        void endMotion(int motion, boolean isCarried) {
            if (isCarried) {
                takeLevy(motions.numberOf(motion, Motions.KIND),
                        motions.numberOf(motion, Motions.PLACE),
                        motions.numberOf(motion, Motions.PURPOSE),
                        motions.numberOf(motion, Motions.AMOUNT));
            }
            motions.putNumber(motion, Motions.STATE, isCarried ? CARRIED : LOST);
        }

        // In what follows, units below 'joining' that do not vote are taken to vote for the motion.

        boolean canBeCarried(int motion, int joining) {
            return countHeads(motion, FOR, joining) > countHeads(motion, AGAINST, joining)
                    && HUNDRED * sumSharesVoting(motion, FOR, joining) >= settings[QUOTA] * units.sumShares();
        }

        int countHeads(int motion, int side, int joining) {
            int heads = 0;
            for (int owner = 0; owner < OWNERS; owner++) {
                if (sideOfOwner(motion, owner, joining) == side) {
                    heads++;
                }
            }
            return heads;
        }

        int sumSharesVoting(int motion, int side, int joining) {
            int sum = 0;
            for (int unit = 0; unit < units.count; unit++) {
                if (sideOfUnit(motion, unit, joining) == side) {
                    sum += units.sharesOf[unit];
                }
            }
            return sum;
        }

        boolean isOrCanBeCarried(int motion) {
            if (motions.isOpen(motion)) {
                return canBeCarried(motion, 0);
            }
            return motions.numberOf(motion, Motions.STATE) == CARRIED;
        }

        int countSilentBelow(int motion, int joining) {
            int silent = 0;
            for (int unit = 0; unit < joining && unit < units.count; unit++) {
                if (motions.voteOf(motion, unit) == 0) {
                    silent++;
                }
            }
            return silent;
        }

        private int sideOfOwner(int motion, int owner, int joining) {
            for (int unit = 0; unit < units.count; unit++) {
                int side = sideOfUnit(motion, unit, joining);
                if (units.ownerOf[unit] == owner && side != 0) {
                    return side;
                }
            }
            return 0;
        }

        private int sideOfUnit(int motion, int unit, int joining) {
            int vote = motions.voteOf(motion, unit);
            return vote == 0 && unit < joining ? FOR : vote;
        }

        private int payableByFund(int purpose, int amount, boolean isFunded) {
            return isFunded ? Math.min(balances[purpose], amount) : 0;
        }

        private boolean canCharge(int kind, int place, int amount) {
            divider.divide(units, settings[BASE_RATE], kind, place, amount);
            for (int unit = 0; unit < units.count; unit++) {
                if (units.accountOf(unit) - divider.parts[unit] < -MAX_ACCOUNT) {
                    return false;
                }
            }
            return units.sumCharged() + amount <= MAX_TOTAL;
        }
    }

    /** Divides amounts to the cent; one object serves all ledgers, since its rows hold only the latest division. */
    private static final class Divider {
        final int[] parts = new int[MAX_UNITS];
        private final int[] weights = new int[MAX_UNITS];
        private final long[] remainders = new long[MAX_UNITS];

        void divide(Units units, int baseRate, int kind, int place, int amount) {
            for (int unit = 0; unit < MAX_UNITS; unit++) {
                parts[unit] = 0;
            }
            if (kind == BY_METERS) {
                int base = (int) ((long) amount * baseRate / HUNDRED);
                weighByShares(units, BY_SHARES, 0);
                addParts(base);
                if (units.hasAnyUse()) {
                    weighByUse(units);
                }
                addParts(amount - base);
            } else if (kind == EQUALLY) {
                weighEqually(units);
                addParts(amount);
            } else {
                weighByShares(units, kind, place);
                addParts(amount);
            }
        }

        private void weighByShares(Units units, int kind, int place) {
            for (int unit = 0; unit < MAX_UNITS; unit++) {
                boolean isIn = unit < units.count && units.isConcerned(unit, kind, place);
                weights[unit] = isIn ? units.sharesOf[unit] : 0;
            }
        }

        private void weighEqually(Units units) {
            for (int unit = 0; unit < MAX_UNITS; unit++) {
                weights[unit] = unit < units.count ? 1 : 0;
            }
        }

        private void weighByUse(Units units) {
            for (int unit = 0; unit < MAX_UNITS; unit++) {
                weights[unit] = unit < units.count ? units.useOf(unit) : 0;
            }
        }

        private void addParts(int amount) {
            long sum = sumWeights();
            if (sum <= 0) {
                return;
            }
            int left = amount;
            for (int unit = 0; unit < MAX_UNITS; unit++) {
                long product = (long) amount * weights[unit];
                int quotient = (int) (product / sum);
                remainders[unit] = product % sum;
                parts[unit] += quotient;
                left -= quotient;
            }
            for (int given = 0; given < left && given < MAX_UNITS; given++) {
                giveCentToGreatestRemainder();
            }
        }

        private long sumWeights() {
            long sum = 0;
            for (int unit = 0; unit < MAX_UNITS; unit++) {
                sum += weights[unit];
            }
            return sum;
        }

        private void giveCentToGreatestRemainder() {
            int greatest = 0;
            for (int unit = 1; unit < MAX_UNITS; unit++) {
                if (remainders[unit] > remainders[greatest]) {
                    greatest = unit;
                }
            }
            parts[greatest]++;
            // No unit gets a second cent: any other remainder is greater than this.
            remainders[greatest] = -1;
        }
    }

    /** The ledgers before the latest changes, in a ring. */
    private static final class History {
        private final Ledger[] ledgers = new Ledger[MAX_CHANGES];
        private int next;
        int kept;

        History(Divider divider) {
            for (int i = 0; i < MAX_CHANGES; i++) {
                ledgers[i] = new Ledger(divider);
            }
        }

        void keep(Ledger now) {
            ledgers[next].copyFrom(now);
            next = (next + 1) % MAX_CHANGES;
            kept = Math.min(kept + 1, MAX_CHANGES);
        }

        void takeBack(Ledger now) {
            next = (next + MAX_CHANGES - 1) % MAX_CHANGES;
            kept--;
            now.copyFrom(ledgers[next]);
        }

        void forget() {
            kept = 0;
        }
    }

    /** The text buffer, read from left to right; a step that fails stands at the sign that cannot continue. */
    private static final class CostText {
        int length;
        int kind;
        int place;
        int purpose;
        int amount;
        boolean isFunded;
        private final char[] signs = new char[MAX_SIGNS];
        private int at;

        void put(char sign) {
            signs[length] = sign;
            length++;
        }

        void empty() {
            length = 0;
            at = 0;
        }

        void startAgain() {
            at = 0;
        }

        int findFault() {
            startAgain();
            boolean isGood = takeNextCost();
            for (int i = 0; i < MAX_SIGNS && isGood && at < length; i++) {
                isGood = takeNextCost();
            }
            return isGood ? NO_FAULT : at;
        }

        /** Takes a cost, with the separator ahead of it; false if none stands here. */
        boolean takeNextCost() {
            return (at == 0 || takeSign(';'))
                    && takeKindAndPlace() && takeSign(':') && takePurpose() && takeSign('=') && takeAmount()
                    && takeFunding();
        }

        private boolean takeKindAndPlace() {
            if (takeSign('a')) {
                return putKindAndPlace(BY_SHARES, 0);
            }
            if (takeSign('e')) {
                return putKindAndPlace(EQUALLY, 0);
            }
            if (takeSign('m')) {
                return putKindAndPlace(BY_METERS, 0);
            }
            if (takeSign('h')) {
                return putKindAndPlace(OF_HOUSE, takeDigit(HOUSES - 1));
            }
            return takeSign('s') && takeStair();
        }

        private boolean takeStair() {
            int house = takeDigit(HOUSES - 1);
            if (house < 0) {
                return false;
            }
            int stair = takeDigit(STAIRS - 1);
            return putKindAndPlace(OF_STAIR, stair < 0 ? stair : house * STAIRS + stair);
        }

        private boolean putKindAndPlace(int newKind, int newPlace) {
            kind = newKind;
            place = newPlace;
            return place >= 0;
        }

        private boolean takePurpose() {
            purpose = takeDigit(PURPOSES - 1);
            return purpose >= 0;
        }

        private boolean takeAmount() {
            int whole = takeWholeMoney();
            if (whole < 0 || !takeSign('.')) {
                return false;
            }
            int tens = takeDigit(9);
            int ones = tens < 0 ? -1 : takeDigit(9);
            amount = whole * HUNDRED + tens * 10 + ones;
            return ones >= 0;
        }

        private int takeWholeMoney() {
            int whole = takeDigit(9);
            if (whole <= 0) {
                return whole;
            }
            for (int digits = 1; digits < 5; digits++) {
                int digit = takeDigit(9);
                if (digit < 0) {
                    return whole;
                }
                whole = whole * 10 + digit;
            }
            return whole;
        }

        private boolean takeFunding() {
            isFunded = takeSign('f');
            return true;
        }

        private boolean takeSign(char sign) {
            if (at >= length || signs[at] != sign) {
                return false;
            }
            at++;
            return true;
        }

        /** Takes a digit up to the greatest one, or takes nothing and returns -1. */
        private int takeDigit(int greatest) {
            if (at >= length) {
                return -1;
            }
            int digit = signs[at] - '0';
            if (digit < 0 || digit > greatest) {
                return -1;
            }
            at++;
            return digit;
        }
    }
}
