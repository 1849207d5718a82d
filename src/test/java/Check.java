/** What all tests share: each prints the answers that are not due, and ends with exit code 1 if there was one. */
final class Check {
    static final Class<IllegalArgumentException> ILLEGAL_ARGUMENT = IllegalArgumentException.class;
    static final Class<IllegalStateException> ILLEGAL_STATE = IllegalStateException.class;
    static final Class<IndexOutOfBoundsException> OUT_OF_BOUNDS = IndexOutOfBoundsException.class;
    static final Class<UnsupportedOperationException> REFUSED = UnsupportedOperationException.class;
    static final Class<java.util.NoSuchElementException> NO_ELEMENT = java.util.NoSuchElementException.class;

    private static int wrong = 0;
    private static String test = "";

    private Check() {
    }

    static void same(String what, long got, long due) {
        if (got != due) {
            report(what + " answered " + got + ", due is " + due);
        }
    }

    static void same(String what, double got, double due) {
        if (got != due) {
            report(what + " answered " + got + ", due is " + due);
        }
    }

    static void same(String what, String got, String due) {
        if (!got.equals(due)) {
            report(what + " answered " + got + ", due is " + due);
        }
    }

    static void thrown(String what, Class<? extends RuntimeException> due, Runnable call) {
        try {
            call.run();
            report(what + " threw nothing, due is " + due.getSimpleName());
        } catch (RuntimeException e) {
            if (e.getClass() != due) {
                report(what + " threw " + e.getClass().getSimpleName() + ", due is " + due.getSimpleName());
            }
        }
    }

    static void refused(CondoLedger ledger, String what, int reason, Runnable call) {
        thrown(what, REFUSED, call);
        same("refusal() behind " + what, ledger.refusal(), reason);
    }

    /** Faults that are reported from here on bear the name of this test. */
    static void begin(String name) {
        test = name + ": ";
    }

    static void report(String fault) {
        wrong++;
        System.out.println(test + fault);
    }

    static void end() {
        System.out.println(wrong == 0 ? "all answers are as due" : wrong + " answers are not as due");
        if (wrong != 0) {
            System.exit(1);
        }
    }

    /** A ledger with a unit for each number of shares, all in house 0 on stair 0, unit n of owner n. */
    static CondoLedger withShares(int... shares) {
        CondoLedger ledger = new CondoLedger();
        for (int i = 0; i < shares.length; i++) {
            ledger.addUnit(0, 0, shares[i], i % 8);
        }
        return ledger;
    }

    static void write(CondoLedger ledger, String text) {
        for (int i = 0; i < text.length(); i++) {
            ledger.append(text.charAt(i));
        }
    }

    static void parts(String what, CondoLedger ledger, int cost, int... due) {
        for (int unit = 0; unit < due.length; unit++) {
            same(what + ": part(" + cost + ", " + unit + ")", ledger.part(cost, unit), due[unit]);
        }
    }

    static void payOften(CondoLedger ledger, int unit, int times, int amount) {
        for (int i = 0; i < times; i++) {
            ledger.pay(unit, amount);
        }
    }
}
