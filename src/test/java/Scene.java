import java.util.ArrayList;
import java.util.List;

/**
 * A ledger behind some calls. It is made anew for each call that is tried on it and for each look at what is behind
 * that call, so that no look disturbs another one.
 */
final class Scene {
    private static final int MOST_CHANGES = 8;
    private static final int MOST_SIGNS = 60;

    private interface Look {
        void tell(CondoLedger ledger, StringBuilder told);
    }

    private static final Look[] LOOKS = {Scene::tellUnits, Scene::tellSums, Scene::tellCosts, Scene::tellParts,
        Scene::tellMotions, Scene::tellSettings, Scene::tellText, Scene::tellRoom};

    private final List<Call> calls;
    private List<String> views;

    Scene() {
        this(new ArrayList<>());
    }

    private Scene(List<Call> calls) {
        this.calls = calls;
    }

    // Scenes behind this one

    Scene then(String name, Object... arguments) {
        List<Call> more = new ArrayList<>(calls);
        more.add(Call.of(name, arguments));
        return new Scene(more);
    }

    Scene times(int times, String name, Object... arguments) {
        Scene scene = this;
        for (int i = 0; i < times; i++) {
            scene = scene.then(name, arguments);
        }
        return scene;
    }

    Scene write(String text) {
        Scene scene = this;
        for (char sign : text.toCharArray()) {
            scene = scene.then("append", sign);
        }
        return scene;
    }

    Scene writeAndBook(String text) {
        return write(text).then("bookAll");
    }

    // What is tried here

    /** The call answers what is due; returns the scene behind it. */
    Scene takes(Object due, String name, Object... arguments) {
        tells(due, name, arguments);
        return then(name, arguments);
    }

    Scene tells(Object due, String name, Object... arguments) {
        Call call = Call.of(name, arguments);
        Check.same(call.toString(), call.told(make()), String.valueOf(due));
        return this;
    }

    /** The call answers what is due, and all is behind it as it was ahead of it. */
    Scene onlyTells(Object due, String name, Object... arguments) {
        tells(due, name, arguments);
        sameBehind(then(name, arguments), name);
        return this;
    }

    /** The call throws, all is behind it as it was ahead of it, and it is no refusal. */
    Scene fails(Class<? extends RuntimeException> due, String name, Object... arguments) {
        tells(due.getName(), name, arguments);
        sameBehind(then(name, arguments), name);
        return this;
    }

    /** The call is refused for the reason, and all else is behind it as it was ahead of it. */
    Scene refuses(int reason, String name, Object... arguments) {
        Scene provoked = provoked(reason);
        provoked.tells(UnsupportedOperationException.class.getName(), name, arguments);
        provoked.then(name, arguments).tells(reason, "refusal");
        Scene behind = then(name, arguments);
        sameViews(behind, name);
        sameAnswer(behind, name, "faultPosition");
        return this;
    }

    /** The text is booked; returns the scene behind it. */
    Scene books(int costs, String text) {
        write(text).tells(costs, "bookAll");
        return writeAndBook(text).tells(-1, "faultPosition");
    }

    /** The text has its fault there; all else, with an empty buffer, is behind it as it was ahead of it. */
    Scene faults(int position, String text) {
        write(text).tells(IllegalArgumentException.class.getName(), "bookAll");
        Scene behind = writeAndBook(text);
        behind.tells(position, "faultPosition");
        sameViews(behind, text);
        sameAnswer(behind, text, "refusal");
        return this;
    }

    /** A cost of the text is refused for the reason; all else is behind it as it was ahead of it. */
    Scene refusesText(int reason, String text) {
        Scene provoked = provoked(reason).write(text);
        provoked.tells(UnsupportedOperationException.class.getName(), "bookAll");
        provoked.then("bookAll").tells(reason, "refusal").tells(-1, "faultPosition");
        sameViews(writeAndBook(text), text);
        return this;
    }

    /** Whatever can be asked of this ledger and of the other one, now and behind undo or restore, is the same. */
    void sameAs(Scene other, String what) {
        sameViews(other, what);
    }

    /** Another reason is kept first, so that the one that is due cannot be a remnant. */
    private Scene provoked(int reason) {
        return reason == 3 ? then("fund", 0, 0) : then("close", -1);
    }

    private void sameBehind(Scene behind, String what) {
        sameViews(behind, what);
        sameAnswer(behind, what, "faultPosition");
        sameAnswer(behind, what, "refusal");
    }

    private void sameAnswer(Scene behind, String what, String asked) {
        Call call = Call.of(asked);
        Check.same(asked + "() behind " + what, call.told(behind.make()), call.told(make()));
    }

    private void sameViews(Scene behind, String what) {
        List<String> ahead = views();
        List<String> now = behind.views();
        for (int i = 0; i < ahead.size(); i++) {
            if (!ahead.get(i).equals(now.get(i))) {
                Check.report("behind " + what + " view " + i + " tells " + now.get(i) + ", due is " + ahead.get(i));
                return;
            }
        }
    }

    private CondoLedger make() {
        CondoLedger ledger = Call.newLedger();
        for (Call call : calls) {
            call.told(ledger);
        }
        return ledger;
    }

    // What can be seen of a ledger: of the one that stands now, of those that undo brings back, and of the snapshot

    private List<String> views() {
        if (views == null) {
            views = new ArrayList<>();
            for (Look look : LOOKS) {
                for (int undone = 0; undone <= MOST_CHANGES; undone++) {
                    views.add(viewBehindUndo(undone, look));
                }
                views.add(viewBehindRestore(look));
            }
        }
        return views;
    }

    private String viewBehindUndo(int undone, Look look) {
        CondoLedger ledger = make();
        StringBuilder told = new StringBuilder();
        for (int i = 0; i < undone; i++) {
            tell(told, ledger, "undo");
        }
        look.tell(ledger, told);
        return told.toString();
    }

    private String viewBehindRestore(Look look) {
        CondoLedger ledger = make();
        StringBuilder told = new StringBuilder();
        tell(told, ledger, "restore");
        tell(told, ledger, "undo");
        look.tell(ledger, told);
        return told.toString();
    }

    private static String tell(StringBuilder told, CondoLedger ledger, String name, Object... arguments) {
        Call call = Call.of(name, arguments);
        String answer = call.told(ledger);
        told.append(call).append(' ').append(answer).append("; ");
        return answer;
    }

    private static int ask(CondoLedger ledger, int what) {
        return Integer.parseInt(Call.of("account", what).told(ledger));
    }

    private static void tellUnits(CondoLedger ledger, StringBuilder told) {
        int units = ask(ledger, 0);
        for (int unit = 0; unit < units; unit++) {
            for (int what = 0; what <= 8; what++) {
                tell(told, ledger, "unit", unit, what);
            }
            tell(told, ledger, "share", unit);
            tell(told, ledger, "wouldPay", 4, 0, 98765, unit);
        }
    }

    private static void tellSums(CondoLedger ledger, StringBuilder told) {
        for (int what = 0; what <= 10; what++) {
            tell(told, ledger, "account", what);
        }
        for (int owner = 0; owner <= 7; owner++) {
            tell(told, ledger, "owned", owner);
        }
        for (int purpose = 0; purpose <= 4; purpose++) {
            tell(told, ledger, "balance", purpose);
        }
        for (int place = 0; place <= 8; place++) {
            tell(told, ledger, "shares", place / 3, place % 3);
        }
        tell(told, ledger, "debtor");
    }

    private static void tellCosts(CondoLedger ledger, StringBuilder told) {
        int costs = ask(ledger, 3);
        for (int cost = 0; cost < costs; cost++) {
            for (int what = 0; what <= 5; what++) {
                tell(told, ledger, "cost", cost, what);
            }
        }
    }

    private static void tellParts(CondoLedger ledger, StringBuilder told) {
        int units = ask(ledger, 0);
        int costs = ask(ledger, 3);
        for (int cost = 0; cost < costs; cost++) {
            for (int unit = 0; unit < units; unit++) {
                tell(told, ledger, "part", cost, unit);
            }
        }
    }

    private static void tellMotions(CondoLedger ledger, StringBuilder told) {
        int units = ask(ledger, 0);
        int motions = ask(ledger, 4);
        for (int motion = 0; motion < motions; motion++) {
            for (int what = 0; what <= 9; what++) {
                tell(told, ledger, "motion", motion, what);
            }
            for (int unit = 0; unit < units; unit++) {
                tell(told, ledger, "voted", motion, unit);
            }
            tell(told, ledger, "lacking", motion);
        }
    }

    private static void tellSettings(CondoLedger ledger, StringBuilder told) {
        tell(told, ledger, "set", 0, 1);
        tell(told, ledger, "set", 1, 2);
    }

    /** A "0" ends the text that the scenes leave in the buffer, and is a fault in an empty one. */
    private static void tellText(CondoLedger ledger, StringBuilder told) {
        tell(told, ledger, "append", '0');
        tell(told, ledger, "bookAll");
        tell(told, ledger, "faultPosition");
        tell(told, ledger, "account", 9);
    }

    private static void tellRoom(CondoLedger ledger, StringBuilder told) {
        for (int i = 0; i <= MOST_SIGNS; i++) {
            tell(told, ledger, "append", 'x');
        }
    }
}
