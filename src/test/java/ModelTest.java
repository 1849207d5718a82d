import java.math.BigInteger;
import java.util.ArrayDeque;
import java.util.ArrayList;
import java.util.List;
import java.util.NoSuchElementException;
import java.util.Random;
import java.util.TreeSet;
import java.util.regex.Matcher;
import java.util.regex.Pattern;

/**
 * Long runs of calls with arguments from a fixed seed, each answer compared with that of a model that is written apart
 * from the class and in other ways: whole states are cloned, divisions sort exact fractions, texts go through a regex.
 */
final class ModelTest {
    private static final int RUNS = 4000;
    private static final int CALLS = 500;

    public static void main(String[] args) {
        for (int run = 0; run < RUNS; run++) {
            if (!new Run(run).goesWell()) {
                break;
            }
        }
        Check.end();
    }

    /** One run of calls on both. */
    private static final class Run {
        private final int seed;
        private final Random random;
        private final CondoLedger ledger = new CondoLedger();
        private final Model model = new Model();
        private final boolean isRich;
        private final int firstUnits;
        private final int unitBound;
        private final List<String> told = new ArrayList<>();

        Run(int seed) {
            this.seed = seed;
            random = new Random(seed);
            isRich = seed % 4 == 0;
            firstUnits = new int[] {6, 12, 1}[seed % 3];
            unitBound = Math.max(firstUnits, 3);
        }

        boolean goesWell() {
            for (int i = 0; i < CALLS; i++) {
                int call = i < firstUnits ? 0 : random.nextInt(100);
                int[] a = {arg(call, 0), arg(call, 1), arg(call, 2), arg(call, 3)};
                boolean flag = random.nextBoolean();
                String got = answer(() -> onLedger(call, a, flag));
                String due = answer(() -> onModel(call, a, flag));
                told.add("call " + call + " (" + a[0] + ", " + a[1] + ", " + a[2] + ", " + a[3] + ", " + flag + ") " + got);
                if (!got.equals(due)) {
                    Check.report("run " + seed + ": due at the end is " + due + "\n" + String.join("\n", told));
                    return false;
                }
            }
            return true;
        }

        private static String answer(java.util.function.Supplier<Object> call) {
            try {
                return String.valueOf(call.get());
            } catch (RuntimeException e) {
                return e.getClass().getSimpleName();
            }
        }

        private int few(int bound) {
            return random.nextInt(40) == 0 ? random.nextInt(5) - 2 + (random.nextBoolean() ? bound : 0) : random.nextInt(bound);
        }

        private int amount() {
            int kind = random.nextInt(30);
            if (kind == 0) {
                return new int[] {0, -1, 10000000, Integer.MIN_VALUE, Integer.MAX_VALUE}[random.nextInt(5)];
            }
            if (isRich && kind < 20) {
                return 9999999 - random.nextInt(3);
            }
            return 1 + random.nextInt(kind < 20 ? 200 : 9999999);
        }

        /** Kinds and places that mostly fit each other, told by the number of the argument. */
        private int kindOrPlace(int number) {
            if (number == 0) {
                lastKind = few(5);
                return lastKind;
            }
            int bound = lastKind == 1 ? 3 : lastKind == 2 ? 9 : 1;
            return random.nextInt(20) == 0 ? random.nextInt(11) - 1 : random.nextInt(bound);
        }

        private int lastKind;

        private int arg(int call, int number) {
            switch (name(call)) {
                case "addUnit": return number == 2 ? 1 + few(300) : few(number == 3 ? 8 : number == 0 && isRich ? 1 : 3);
                case "setOwner": return number == 0 ? few(unitBound) : few(8);
                case "set": return number == 0 ? few(2) : few(101);
                case "read": return number == 0 ? few(unitBound) : random.nextInt(10) == 0 ? few(100000) : few(900);
                case "unit": return number == 0 ? few(unitBound) : few(9);
                case "owned": return few(8);
                case "shares": return number == 0 ? few(3) : few(4) - 1;
                case "pay": return number == 0 ? few(unitBound) : amount();
                case "book": return number < 2 ? kindOrPlace(number) : number == 2 ? few(5) : amount();
                case "move": return number < 2 ? kindOrPlace(number) : number == 2 ? few(5) : amount();
                case "cost": return number == 0 ? few(20) : few(6);
                case "part": return number == 0 ? few(20) : few(unitBound);
                case "wouldPay": return number < 2 ? kindOrPlace(number) : number == 2 ? amount() : few(unitBound);
                case "fund": return number == 0 ? few(isRich ? 2 : 5) : amount();
                case "balance": return few(5);
                case "vote": return number == 0 ? few(8) : number == 1 ? few(unitBound) : few(3) - 1;
                case "close": return few(8);
                case "motion": return number == 0 ? few(8) : few(10);
                case "voted": return number == 0 ? few(8) : few(unitBound);
                case "lacking": return few(8);
                case "account": return few(11);
                case "share": return few(unitBound);
                default: return random.nextInt();
            }
        }

        private static String name(int call) {
            String[] names = {"addUnit", "addUnit", "setOwner", "setOwner", "set", "set", "read", "read", "read", "read",
                "unit", "unit", "unit", "unit", "owned", "debtor", "shares", "pay", "pay", "pay", "book", "book", "book",
                "book", "book", "book", "book", "book", "cost", "cost", "cost", "part", "part", "part", "part", "part",
                "part", "wouldPay", "wouldPay", "wouldPay", "fund", "fund", "fund", "fund", "balance", "balance",
                "refusal", "refusal", "move", "move", "move", "vote", "vote", "vote", "vote", "vote", "vote", "vote",
                "vote", "vote", "close", "close", "motion", "motion", "motion", "motion", "motion", "motion", "voted",
                "voted", "lacking", "lacking", "lacking", "text", "text", "text", "text", "text", "badText", "badText",
                "faultPosition", "account", "account", "account", "account", "share", "undo", "undo", "undo", "undo",
                "save", "restore"};
            return names[call % names.length];
        }

        private Object onLedger(int call, int[] a, boolean flag) {
            CondoLedger x = ledger;
            switch (name(call)) {
                case "addUnit": return x.addUnit(a[0], a[1], a[2], a[3]);
                case "setOwner": return x.setOwner(a[0], a[1]);
                case "set": return x.set(a[0], a[1]);
                case "read": return x.read(a[0], a[1]);
                case "unit": return x.unit(a[0], a[1]);
                case "owned": return x.owned(a[0]);
                case "debtor": return x.debtor();
                case "shares": return x.shares(a[0], a[1]);
                case "pay": return x.pay(a[0], a[1]);
                case "book": return x.book(a[0], a[1], a[2], a[3], flag);
                case "cost": return x.cost(a[0], a[1]);
                case "part": return x.part(a[0], a[1]);
                case "wouldPay": return x.wouldPay(a[0], a[1], a[2], a[3]);
                case "fund": return x.fund(a[0], a[1]);
                case "balance": return x.balance(a[0]);
                case "refusal": return x.refusal();
                case "move": return x.move(a[0], a[1], a[2], a[3]);
                case "vote": return x.vote(a[0], a[1], a[2]);
                case "close": return x.close(a[0]);
                case "motion": return x.motion(a[0], a[1]);
                case "voted": return x.voted(a[0], a[1]);
                case "lacking": return x.lacking(a[0]);
                case "text":
                case "badText":
                    Check.write(x, text(call, a[0]));
                    return x.bookAll();
                case "faultPosition": return x.faultPosition();
                case "account": return x.account(a[0]);
                case "share": return x.share(a[0]);
                case "undo": return x.undo();
                case "save": x.save(); return "";
                default: x.restore(); return "";
            }
        }

        private Object onModel(int call, int[] a, boolean flag) {
            Model x = model;
            switch (name(call)) {
                case "addUnit": return x.addUnit(a[0], a[1], a[2], a[3]);
                case "setOwner": return x.setOwner(a[0], a[1]);
                case "set": return x.set(a[0], a[1]);
                case "read": return x.read(a[0], a[1]);
                case "unit": return x.unit(a[0], a[1]);
                case "owned": return x.owned(a[0]);
                case "debtor": return x.debtor();
                case "shares": return x.shares(a[0], a[1]);
                case "pay": return x.pay(a[0], a[1]);
                case "book": return x.book(a[0], a[1], a[2], a[3], flag);
                case "cost": return x.cost(a[0], a[1]);
                case "part": return x.part(a[0], a[1]);
                case "wouldPay": return x.wouldPay(a[0], a[1], a[2], a[3]);
                case "fund": return x.fund(a[0], a[1]);
                case "balance": return x.balance(a[0]);
                case "refusal": return x.refusal();
                case "move": return x.move(a[0], a[1], a[2], a[3]);
                case "vote": return x.vote(a[0], a[1], a[2]);
                case "close": return x.close(a[0]);
                case "motion": return x.motion(a[0], a[1]);
                case "voted": return x.voted(a[0], a[1]);
                case "lacking": return x.lacking(a[0]);
                case "text":
                case "badText": return x.bookAll(text(call, a[0]));
                case "faultPosition": return x.faultAt;
                case "account": return x.account(a[0]);
                case "share": return x.share(a[0]);
                case "undo": return x.undo();
                case "save": x.save(); return "";
                default: x.restore(); return "";
            }
        }

        private String text(int call, int textSeed) {
            Random r = new Random(textSeed);
            StringBuilder text = new StringBuilder();
            int costs = 1 + r.nextInt(6);
            for (int i = 0; i < costs; i++) {
                String[] kinds = {"a", "e", "m", "h" + r.nextInt(3), "s" + r.nextInt(3) + r.nextInt(3)};
                String money = isRich && r.nextBoolean() ? "99999.99" : r.nextInt(30) + "." + r.nextInt(10) + r.nextInt(10);
                text.append(i == 0 ? "" : ";").append(kinds[r.nextInt(5)]).append(':').append(r.nextInt(5));
                text.append('=').append(money).append(r.nextBoolean() ? "f" : "");
            }
            if (name(call).equals("badText")) {
                int at = r.nextInt(text.length());
                String signs = "aemhs:=.;f0123456789 x";
                switch (r.nextInt(3)) {
                    case 0: text.deleteCharAt(at); break;
                    case 1: text.setCharAt(at, signs.charAt(r.nextInt(signs.length()))); break;
                    default: text.insert(at, signs.charAt(r.nextInt(signs.length())));
                }
            }
            return text.substring(0, Math.min(60, text.length()));
        }
    }

    private static final class Unit implements Cloneable {
        int house;
        int stair;
        int shares;
        int owner;
        int reading;
        int billed;
        long paid;
        long charged;

        Unit copy() {
            try {
                return (Unit) clone();
            } catch (CloneNotSupportedException e) {
                throw new Error(e);
            }
        }
    }

    /** A cost, or a motion with its votes in the parts. */
    private static final class Entry {
        int[] numbers;
        long[] parts = new long[12];

        Entry(int... numbers) {
            this.numbers = numbers;
        }

        Entry copy() {
            Entry copy = new Entry(numbers.clone());
            copy.parts = parts.clone();
            return copy;
        }
    }

    private static final class State {
        List<Unit> units = new ArrayList<>();
        List<Entry> costs = new ArrayList<>();
        List<Entry> motions = new ArrayList<>();
        long[] funds = new long[5];
        int[] settings = {30, 50};
        long paidByFunds;

        State copy() {
            State copy = new State();
            units.forEach(unit -> copy.units.add(unit.copy()));
            costs.forEach(cost -> copy.costs.add(cost.copy()));
            motions.forEach(motion -> copy.motions.add(motion.copy()));
            copy.funds = funds.clone();
            copy.settings = settings.clone();
            copy.paidByFunds = paidByFunds;
            return copy;
        }

        boolean isBeyond() {
            long paid = 0;
            long charged = 0;
            for (Unit unit : units) {
                paid += unit.paid;
                charged += unit.charged;
                if (Math.abs(unit.paid - unit.charged) > 99999999) {
                    return true;
                }
            }
            for (long fund : funds) {
                if (fund > 99999999) {
                    return true;
                }
            }
            return paid > 999999999 || charged > 999999999;
        }
    }

    private static final class Model {
        private static final Pattern TEXT = Pattern.compile(
                "((a|e|m|h[0-2]|s[0-2][0-2]):[0-4]=(0|[1-9][0-9]{0,4})\\.[0-9][0-9]f?)"
                + "(;(a|e|m|h[0-2]|s[0-2][0-2]):[0-4]=(0|[1-9][0-9]{0,4})\\.[0-9][0-9]f?)*");

        State s = new State();
        State saved;
        ArrayDeque<State> earlier = new ArrayDeque<>();
        int reason;
        int faultAt = -1;

        private void argue(boolean isRight) {
            if (!isRight) {
                throw new IllegalArgumentException();
            }
        }

        private void find(boolean isThere) {
            if (!isThere) {
                throw new IndexOutOfBoundsException();
            }
        }

        private void refuseIf(boolean isSo, int why) {
            if (isSo) {
                reason = why;
                throw new UnsupportedOperationException();
            }
        }

        private void become(State next) {
            earlier.addLast(s);
            if (earlier.size() > 8) {
                earlier.removeFirst();
            }
            s = next;
        }

        private boolean isUnit(int unit) {
            return unit >= 0 && unit < s.units.size();
        }

        private boolean isFitting(int kind, int place) {
            return kind == 1 ? place >= 0 && place <= 2 : kind == 2 ? place >= 0 && place <= 8 : place == 0;
        }

        private static List<Integer> concerned(State state, int kind, int place) {
            List<Integer> all = new ArrayList<>();
            for (int i = 0; i < state.units.size(); i++) {
                Unit unit = state.units.get(i);
                if (kind == 1 && unit.house != place || kind == 2 && unit.house * 3 + unit.stair != place) {
                    continue;
                }
                all.add(i);
            }
            return all;
        }

        private static void divide(long[] parts, long amount, List<Integer> units, List<Integer> weights) {
            BigInteger sum = BigInteger.valueOf(weights.stream().mapToLong(w -> w).sum());
            BigInteger[] remainders = new BigInteger[12];
            long left = amount;
            for (int i = 0; i < units.size(); i++) {
                BigInteger[] divided = BigInteger.valueOf(amount).multiply(BigInteger.valueOf(weights.get(i))).divideAndRemainder(sum);
                parts[units.get(i)] += divided[0].longValueExact();
                left -= divided[0].longValueExact();
                remainders[units.get(i)] = divided[1];
            }
            List<Integer> order = new ArrayList<>(units);
            order.sort((p, q) -> remainders[p].equals(remainders[q]) ? p - q : remainders[q].compareTo(remainders[p]));
            for (int i = 0; i < left; i++) {
                parts[order.get(i)]++;
            }
        }

        private static long[] divided(State state, int kind, int place, long amount) {
            long[] parts = new long[12];
            List<Integer> units = concerned(state, kind, place);
            List<Integer> shares = new ArrayList<>();
            List<Integer> uses = new ArrayList<>();
            List<Integer> ones = new ArrayList<>();
            for (int unit : units) {
                shares.add(state.units.get(unit).shares);
                uses.add(state.units.get(unit).reading - state.units.get(unit).billed);
                ones.add(1);
            }
            if (kind == 4) {
                long base = amount * state.settings[0] / 100;
                boolean isUsed = uses.stream().anyMatch(use -> use > 0);
                divide(parts, base, units, shares);
                divide(parts, amount - base, units, isUsed ? uses : shares);
            } else {
                divide(parts, amount, units, kind == 3 ? ones : shares);
            }
            return parts;
        }

        private static void charge(State state, long[] parts) {
            for (int i = 0; i < state.units.size(); i++) {
                state.units.get(i).charged += parts[i];
            }
        }

        int addUnit(int house, int stair, int shares, int owner) {
            argue(house >= 0 && house < 3 && stair >= 0 && stair < 3 && shares > 0 && shares <= 300 && owner >= 0 && owner < 8);
            if (s.units.size() == 12) {
                throw new IllegalStateException();
            }
            State next = s.copy();
            Unit unit = new Unit();
            unit.house = house;
            unit.stair = stair;
            unit.shares = shares;
            unit.owner = owner;
            next.units.add(unit);
            become(next);
            return next.units.size() - 1;
        }

        int setOwner(int unit, int owner) {
            find(isUnit(unit));
            argue(owner >= 0 && owner < 8);
            State next = s.copy();
            next.units.get(unit).owner = owner;
            become(next);
            return earlier.getLast().units.get(unit).owner;
        }

        int set(int setting, int value) {
            find(setting == 0 || setting == 1);
            argue(value >= 0 && value <= 100);
            State next = s.copy();
            next.settings[setting] = value;
            become(next);
            return earlier.getLast().settings[setting];
        }

        int read(int unit, int reading) {
            find(isUnit(unit));
            argue(reading >= s.units.get(unit).reading && reading <= 99999);
            State next = s.copy();
            next.units.get(unit).reading = reading;
            become(next);
            return unit(unit, 5);
        }

        int unit(int unit, int what) {
            find(isUnit(unit));
            argue(what >= 0 && what <= 8);
            Unit u = s.units.get(unit);
            long[] told = {u.house, u.stair, u.shares, u.owner, u.reading, u.reading - u.billed, u.paid - u.charged,
                u.paid, u.charged};
            return Math.toIntExact(told[what]);
        }

        int owned(int owner) {
            argue(owner >= 0 && owner < 8);
            return Math.toIntExact(s.units.stream().filter(u -> u.owner == owner).mapToLong(u -> u.paid - u.charged).sum());
        }

        int debtor() {
            if (s.units.isEmpty()) {
                throw new NoSuchElementException();
            }
            long least = s.units.stream().mapToLong(u -> u.paid - u.charged).min().getAsLong();
            for (int i = 0; ; i++) {
                if (s.units.get(i).paid - s.units.get(i).charged == least) {
                    return i;
                }
            }
        }

        int shares(int house, int stair) {
            argue(house >= 0 && house < 3 && stair >= -1 && stair < 3);
            return concerned(s, stair < 0 ? 1 : 2, stair < 0 ? house : house * 3 + stair).stream()
                    .mapToInt(u -> s.units.get(u).shares).sum();
        }

        int pay(int unit, int amount) {
            find(isUnit(unit));
            refuseIf(amount < 1 || amount > 9999999, 2);
            State next = s.copy();
            next.units.get(unit).paid += amount;
            refuseIf(next.isBeyond(), 5);
            become(next);
            return unit(unit, 6);
        }

        /** Puts a cost into a state; an answer below 0 tells the reason against it. */
        private static int put(State state, int kind, int place, int purpose, int amount, boolean isFunded) {
            int size = concerned(state, kind, place).size();
            if (size == 0) {
                return -1;
            }
            if (amount < 1 || amount > 9999999) {
                return -2;
            }
            long fromFund = isFunded ? Math.min(amount, state.funds[purpose]) : 0;
            Entry cost = new Entry(kind, place, purpose, amount, (int) fromFund, size);
            state.funds[purpose] -= fromFund;
            state.paidByFunds += fromFund;
            if (amount > fromFund) {
                cost.parts = divided(state, kind, place, amount - fromFund);
                charge(state, cost.parts);
                if (kind == 4) {
                    state.units.forEach(u -> u.billed = u.reading);
                }
            }
            state.costs.add(cost);
            if (state.costs.size() > 20) {
                state.costs.remove(0);
            }
            return state.isBeyond() ? -5 : (int) fromFund;
        }

        int book(int kind, int place, int purpose, int amount, boolean isFunded) {
            argue(kind >= 0 && kind <= 4 && purpose >= 0 && purpose <= 4 && isFitting(kind, place));
            State next = s.copy();
            int answer = put(next, kind, place, purpose, amount, isFunded);
            refuseIf(answer < 0, -answer);
            become(next);
            return answer;
        }

        int cost(int cost, int what) {
            find(cost >= 0 && cost < s.costs.size());
            argue(what >= 0 && what <= 5);
            return s.costs.get(cost).numbers[what];
        }

        int part(int cost, int unit) {
            find(cost >= 0 && cost < s.costs.size() && isUnit(unit));
            return (int) s.costs.get(cost).parts[unit];
        }

        int wouldPay(int kind, int place, int amount, int unit) {
            find(isUnit(unit));
            argue(kind >= 0 && kind <= 4 && isFitting(kind, place) && amount >= 1 && amount <= 9999999);
            if (concerned(s, kind, place).isEmpty()) {
                throw new NoSuchElementException();
            }
            return (int) divided(s, kind, place, amount)[unit];
        }

        private static State levied(State state, int kind, int place, int purpose, int amount) {
            State next = state.copy();
            charge(next, divided(next, kind, place, amount));
            next.funds[purpose] += amount;
            return next;
        }

        int fund(int purpose, int amount) {
            argue(purpose >= 0 && purpose <= 4);
            refuseIf(s.units.isEmpty(), 1);
            refuseIf(amount < 1 || amount > 9999999, 2);
            State next = levied(s, 0, 0, purpose, amount);
            refuseIf(next.isBeyond(), 5);
            become(next);
            return (int) s.funds[purpose];
        }

        int balance(int purpose) {
            argue(purpose >= 0 && purpose <= 4);
            return (int) s.funds[purpose];
        }

        int refusal() {
            if (reason == 0) {
                throw new NoSuchElementException();
            }
            return reason;
        }

        int move(int kind, int place, int purpose, int amount) {
            argue(kind >= 0 && kind <= 3 && purpose >= 0 && purpose <= 4 && isFitting(kind, place));
            refuseIf(concerned(s, kind, place).isEmpty(), 1);
            refuseIf(amount < 1 || amount > 9999999, 2);
            refuseIf(s.motions.size() == 8, 4);
            State next = s.copy();
            next.motions.add(new Entry(kind, place, purpose, amount, 0));
            become(next);
            return next.motions.size() - 1;
        }

        private boolean isOpen(int motion) {
            return motion >= 0 && motion < s.motions.size() && s.motions.get(motion).numbers[4] == 0;
        }

        int vote(int motion, int unit, int vote) {
            find(isUnit(unit));
            argue(vote >= -1 && vote <= 1);
            refuseIf(!isOpen(motion), 3);
            State next = s.copy();
            next.motions.get(motion).parts[unit] = vote;
            become(next);
            return (int) earlier.getLast().motions.get(motion).parts[unit];
        }

        private int heads(long[] votes, int side) {
            TreeSet<Integer> seen = new TreeSet<>();
            int heads = 0;
            for (int i = 0; i < s.units.size(); i++) {
                if (votes[i] != 0 && seen.add(s.units.get(i).owner) && votes[i] == side) {
                    heads++;
                }
            }
            return heads;
        }

        private int sharesOf(long[] votes, int side) {
            int sum = 0;
            for (int i = 0; i < s.units.size(); i++) {
                sum += votes[i] == side ? s.units.get(i).shares : 0;
            }
            return sum;
        }

        private boolean isEnough(long[] votes) {
            int all = s.units.stream().mapToInt(u -> u.shares).sum();
            return heads(votes, 1) > heads(votes, -1) && 100 * sharesOf(votes, 1) >= s.settings[1] * all;
        }

        int close(int motion) {
            refuseIf(!isOpen(motion), 3);
            Entry entry = s.motions.get(motion);
            boolean isCarried = isEnough(entry.parts);
            int[] n = entry.numbers;
            State next = isCarried ? levied(s, n[0], n[1], n[2], n[3]) : s.copy();
            refuseIf(next.isBeyond(), 5);
            next.motions.get(motion).numbers[4] = isCarried ? 1 : 2;
            become(next);
            return isCarried ? 1 : 0;
        }

        int motion(int motion, int what) {
            find(motion >= 0 && motion < s.motions.size());
            argue(what >= 0 && what <= 9);
            Entry entry = s.motions.get(motion);
            if (what < 5) {
                return entry.numbers[what];
            }
            if (what < 7) {
                return heads(entry.parts, what == 5 ? 1 : -1);
            }
            if (what < 9) {
                return sharesOf(entry.parts, what == 7 ? 1 : -1);
            }
            return entry.numbers[4] == 0 ? (isEnough(entry.parts) ? 1 : 0) : 2 - entry.numbers[4];
        }

        int voted(int motion, int unit) {
            find(motion >= 0 && motion < s.motions.size() && isUnit(unit));
            return (int) s.motions.get(motion).parts[unit];
        }

        int lacking(int motion) {
            find(motion >= 0 && motion < s.motions.size());
            if (!isOpen(motion)) {
                throw new IllegalStateException();
            }
            long[] votes = s.motions.get(motion).parts.clone();
            int further = 0;
            for (int i = 0; !isEnough(votes); i++) {
                if (i == s.units.size()) {
                    throw new NoSuchElementException();
                }
                if (votes[i] == 0) {
                    votes[i] = 1;
                    further++;
                }
            }
            return further;
        }

        private static int faultOf(String text) {
            if (TEXT.matcher(text).matches()) {
                return -1;
            }
            for (int end = 1; end <= text.length(); end++) {
                Matcher matcher = TEXT.matcher(text.substring(0, end));
                if (!matcher.matches() && !matcher.hitEnd()) {
                    return end - 1;
                }
            }
            return text.length();
        }

        int bookAll(String text) {
            faultAt = faultOf(text);
            argue(faultAt < 0);
            State next = s.copy();
            String[] costs = text.split(";");
            for (String cost : costs) {
                boolean isFunded = cost.endsWith("f");
                String[] halves = cost.replace("f", "").replace(".", "").split("[:=]");
                int kind = new int[] {0, 3, 4, 1, 2}["aemhs".indexOf(halves[0].charAt(0))];
                int place = halves[0].length() == 1 ? 0 : Integer.parseInt(halves[0].substring(1), 3);
                int answer = put(next, kind, place, Integer.parseInt(halves[1]), Integer.parseInt(halves[2]), isFunded);
                refuseIf(answer < 0, -answer);
            }
            become(next);
            return costs.length;
        }

        int account(int what) {
            argue(what >= 0 && what <= 10);
            long paid = s.units.stream().mapToLong(u -> u.paid).sum();
            long charged = s.units.stream().mapToLong(u -> u.charged).sum();
            long[] told = {s.units.size(), s.units.stream().mapToInt(u -> u.shares).sum(),
                s.units.stream().mapToInt(u -> u.owner).distinct().count(), s.costs.size(), s.motions.size(),
                s.motions.stream().filter(m -> m.numbers[4] == 0).count(), paid - charged,
                java.util.Arrays.stream(s.funds).sum(), paid, charged, s.paidByFunds};
            return Math.toIntExact(told[what]);
        }

        double share(int unit) {
            find(isUnit(unit));
            return (double) s.units.get(unit).shares / (double) account(1);
        }

        int undo() {
            if (earlier.isEmpty()) {
                throw new IllegalStateException();
            }
            s = earlier.removeLast();
            return earlier.size();
        }

        void save() {
            saved = s.copy();
        }

        void restore() {
            if (saved == null) {
                throw new IllegalStateException();
            }
            s = saved.copy();
            earlier.clear();
        }
    }
}
