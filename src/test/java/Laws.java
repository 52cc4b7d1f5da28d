import java.util.ArrayList;
import java.util.List;
import java.util.Map;
import java.util.Set;
import java.util.TreeSet;

/**
 * What holds of every call, whatever it does: a call that throws, or only asks, leaves all else as
 * it was; undo takes back just the latest change; no call but save reaches into the snapshot; and
 * what can be learned in two ways agrees.
 */
final class Laws {
    private static final int MOST_UNDONE = 8;
    private static final Set<String> CHANGES = Set.of("matter", "set", "ask", "decide", "tell", "faint",
            "wake", "sleep", "rouse", "inquire", "pass", "run");
    private static final Set<String> NOT_OF_THE_STATE =
            Set.of("character", "account(11)", "errorPosition", "refusal");

    private final String name;
    private final boolean hasThrown;
    private final boolean isRefused;
    private final Portrait before;
    private final Portrait after;
    private final List<String> broken = new ArrayList<>();

    private Laws(String name, String answer, Portrait before, Portrait after) {
        this.name = name;
        hasThrown = answer.startsWith("throws");
        isRefused = answer.equals("throws UnsupportedOperationException");
        this.before = before;
        this.after = after;
    }

    /** What the call, which answered so, broke; empty if it kept the laws. */
    static List<String> brokenBy(String name, String answer, Portrait before, Portrait after) {
        Laws laws = new Laws(name, answer, before, after);
        laws.checkState();
        laws.checkBesideTheState();
        laws.checkUndo();
        laws.checkSnapshot();
        laws.checkInput();
        laws.broken.addAll(Agreement.brokenIn(after.now));
        return laws.broken;
    }

    private boolean isNewState() {
        return !hasThrown && (CHANGES.contains(name) || name.equals("undo") || name.equals("restore"));
    }

    private void checkState() {
        if (!isNewState()) {
            same("the state", before.now, after.now);
        }
    }

    private void checkBesideTheState() {
        boolean isRun = name.equals("run");
        if (!isRefused) {
            sameOf("refusal", before.now, after.now);
        }
        if (!isRun) {
            sameOf("errorPosition", before.now, after.now);
        }
        if (!isRun && !(name.equals("append") && !hasThrown)) {
            sameOf("account(11)", before.now, after.now);
        }
        if (!(name.equals("line") && !hasThrown)) {
            sameOf("character", before.now, after.now);
        }
    }

    private void checkUndo() {
        String count = String.valueOf(after.undone.size());
        if (!count.equals(after.now.get("account(12)"))) {
            broken.add("account(12) tells " + after.now.get("account(12)") + ", but undo goes " + count + " times");
        }
        if (!isNewState()) {
            sameUndone(before.undone, after.undone);
        } else if (name.equals("undo") && before.undone.isEmpty()) {
            broken.add("undone though no change can be");
        } else if (name.equals("undo")) {
            List<Map<String, String>> due = new ArrayList<>(before.undone);
            same("what was undone", due.remove(0), after.now);
            sameUndone(due, after.undone);
        } else if (name.equals("restore")) {
            sameUndone(List.of(), after.undone);
            same("what was restored", before.restored, after.now);
        } else {
            List<Map<String, String>> due = new ArrayList<>(before.undone);
            due.add(0, before.now);
            sameUndone(due.subList(0, Math.min(due.size(), MOST_UNDONE)), after.undone);
        }
    }

    private void sameUndone(List<Map<String, String>> due, List<Map<String, String>> got) {
        if (due.size() != got.size()) {
            broken.add(got.size() + " changes can be undone, due are " + due.size());
        }
        for (int i = 0; i < due.size() && i < got.size(); i++) {
            same("the state after " + (i + 1) + " undone", due.get(i), got.get(i));
        }
    }

    private void checkSnapshot() {
        if (name.equals("save")) {
            same("the snapshot", before.now, after.restored);
            return;
        }
        sameOf("restore", before.restored, after.restored);
        if (!before.restored.get("restore()").startsWith("throws")) {
            same("the snapshot", before.restored, after.restored);
        }
    }

    /** What the input holds shows when it is run, as long as the state is the same. */
    private void checkInput() {
        if (!isNewState() && !name.equals("append") && !name.equals("run")) {
            same("the state after a run", before.run, after.run);
            sameOf("run", before.run, after.run);
            sameOf("errorPosition", before.run, after.run);
        }
    }

    // account(12) differs after an undo by nature; checkUndo looks at it.
    private void same(String what, Map<String, String> due, Map<String, String> got) {
        Set<String> questions = new TreeSet<>(due.keySet());
        questions.addAll(got.keySet());
        for (String question : questions) {
            boolean isBeside = NOT_OF_THE_STATE.stream().anyMatch(question::startsWith);
            if (!isBeside && !question.equals("account(12)") && !question.equals("restore()")) {
                compare(what, question, due, got);
            }
        }
    }

    private void sameOf(String prefix, Map<String, String> due, Map<String, String> got) {
        for (String question : due.keySet()) {
            if (question.startsWith(prefix)) {
                compare("beside the state", question, due, got);
            }
        }
    }

    private void compare(String what, String question, Map<String, String> due, Map<String, String> got) {
        String one = due.get(question);
        String other = got.get(question);
        if (one == null || !one.equals(other)) {
            broken.add(what + ": " + question + " was " + one + ", is " + other);
        }
    }
}
