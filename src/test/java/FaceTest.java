import java.lang.reflect.Constructor;
import java.lang.reflect.Field;
import java.lang.reflect.Method;
import java.lang.reflect.Modifier;
import java.util.Arrays;
import java.util.TreeSet;

/** The public face, and rule 1 of LANGUAGE.md. */
final class FaceTest {
    private static final String IAE = "IllegalArgumentException";
    private static final String ISE = "IllegalStateException";
    private static final String IOOBE = "IndexOutOfBoundsException";
    private static final String UOE = "UnsupportedOperationException";
    private static final String NSEE = "NoSuchElementException";

    public static void main(String[] args) {
        TreeSet<String> due = new TreeSet<>(Arrays.asList(
                "int addUnit(int,int,int,int) " + IAE + "," + ISE, "int setOwner(int,int) " + IOOBE + "," + IAE,
                "int set(int,int) " + IOOBE + "," + IAE, "int read(int,int) " + IOOBE + "," + IAE,
                "int unit(int,int) " + IOOBE + "," + IAE, "int owned(int) " + IAE, "int debtor() " + NSEE,
                "int shares(int,int) " + IAE, "int pay(int,int) " + IOOBE + "," + UOE,
                "int book(int,int,int,int,boolean) " + IAE + "," + UOE, "int cost(int,int) " + IOOBE + "," + IAE,
                "int part(int,int) " + IOOBE, "int wouldPay(int,int,int,int) " + IOOBE + "," + IAE + "," + NSEE,
                "int fund(int,int) " + IAE + "," + UOE, "int balance(int) " + IAE, "int refusal() " + NSEE,
                "int move(int,int,int,int) " + IAE + "," + UOE,
                "int vote(int,int,int) " + IOOBE + "," + IAE + "," + UOE, "int close(int) " + UOE,
                "int motion(int,int) " + IOOBE + "," + IAE, "int voted(int,int) " + IOOBE,
                "int lacking(int) " + IOOBE + "," + ISE + "," + NSEE, "void append(char) " + ISE,
                "int bookAll() " + IAE + "," + UOE, "int faultPosition() ", "int account(int) " + IAE,
                "double share(int) " + IOOBE, "int undo() " + ISE, "void save() ", "void restore() " + ISE));
        TreeSet<String> got = new TreeSet<>();
        TreeSet<String> publicNames = new TreeSet<>();
        for (Method method : CondoLedger.class.getDeclaredMethods()) {
            if (Modifier.isPublic(method.getModifiers())) {
                got.add(describe(method));
                publicNames.add(method.getName());
            } else if (!Modifier.isPrivate(method.getModifiers())) {
                Check.report(method + " is neither public nor private");
            }
        }
        Check.same("the face", got.toString(), due.toString());
        privateMembers(publicNames);
        Check.end();
    }

    private static String describe(Method method) {
        StringBuilder told = new StringBuilder();
        told.append(method.getReturnType().getSimpleName()).append(' ').append(method.getName());
        told.append('(').append(names(method.getParameterTypes())).append(") ");
        return told.append(names(method.getExceptionTypes())).toString();
    }

    private static String names(Class<?>[] types) {
        StringBuilder told = new StringBuilder();
        for (Class<?> type : types) {
            told.append(told.length() == 0 ? "" : ",").append(type.getSimpleName());
        }
        return told.toString();
    }

    private static void privateMembers(TreeSet<String> publicNames) {
        for (Field field : CondoLedger.class.getDeclaredFields()) {
            if (!Modifier.isPrivate(field.getModifiers())) {
                Check.report(field + " is not private");
            }
        }
        for (Constructor<?> constructor : CondoLedger.class.getDeclaredConstructors()) {
            Check.same("parameters of the constructor", constructor.getParameterCount(), 0);
        }
        for (Class<?> inner : CondoLedger.class.getDeclaredClasses()) {
            if (!Modifier.isStatic(inner.getModifiers())) {
                Check.report(inner + " is not static");
            }
            for (Method method : inner.getDeclaredMethods()) {
                if (publicNames.contains(method.getName())) {
                    Check.report(method + " bears the name of a public one");
                }
            }
        }
    }
}
