import java.lang.reflect.InvocationTargetException;
import java.lang.reflect.Method;

/** A call of the face by its name, so that a fault tells the call as it was made. */
final class Call {
    private static final int MOST_CALLS = 512;
    private static int callsOnLatestLedger;

    private final Method method;
    private final Object[] arguments;

    private Call(Method method, Object[] arguments) {
        this.method = method;
        this.arguments = arguments;
    }

    static Call of(String name, Object... arguments) {
        for (Method method : CondoLedger.class.getMethods()) {
            if (method.getName().equals(name) && method.getParameterCount() == arguments.length) {
                return new Call(method, arguments);
            }
        }
        throw new AssertionError("the face has no " + name + " with " + arguments.length + " arguments");
    }

    static CondoLedger newLedger() {
        callsOnLatestLedger = 0;
        return new CondoLedger();
    }

    /** Answers as the ledger does, with its exceptions, too. */
    Object on(CondoLedger ledger) {
        countCall();
        try {
            return method.invoke(ledger, arguments);
        } catch (InvocationTargetException e) {
            throw (RuntimeException) e.getCause();
        } catch (IllegalAccessException e) {
            throw new AssertionError(e);
        }
    }

    /** The answer, or the name of the exception in its place. */
    String told(CondoLedger ledger) {
        try {
            return String.valueOf(on(ledger));
        } catch (RuntimeException e) {
            return e.getClass().getName();
        }
    }

    @Override
    public String toString() {
        StringBuilder told = new StringBuilder(method.getName()).append('(');
        for (int i = 0; i < arguments.length; i++) {
            told.append(i == 0 ? "" : ", ").append(arguments[i]);
        }
        return told.append(')').toString();
    }

    /** The document promises nothing behind the 512th call, so no test may lean on one. */
    private static void countCall() {
        callsOnLatestLedger++;
        if (callsOnLatestLedger == MOST_CALLS + 1) {
            Check.report("the test makes more than " + MOST_CALLS + " calls on one ledger");
        }
    }
}
