import java.util.ArrayList;
import java.util.LinkedHashMap;
import java.util.List;
import java.util.Map;
import java.util.Set;

/**
 * All that can be learned of an object after some calls: as it is, after each undo that is left,
 * after a restore and after a run. It is asked of as many objects as 512 calls each allow, and the
 * object that it is about is left alone.
 */
final class Portrait {
    private static final int MOST_UNDONE = 8;
    private static final Player.Call UNDO = new Player.Call("undo");
    private static final Player.Call RESTORE = new Player.Call("restore");
    private static final Player.Call RUN = new Player.Call("run");
    private static final Player.Call MATTERS = new Player.Call("account", "0");
    // Nothing is asked for behind the end of the line and of the book.
    private static final Set<String> ENDING = Set.of("character", "book");
    private static final List<Player.Call> OF_ALL = questionsOfAll();
    private static final List<List<Player.Call>> OF_MATTERS = questionsOfMatters();

    final Map<String, String> now;
    final List<Map<String, String>> undone = new ArrayList<>();
    final Map<String, String> restored;
    final Map<String, String> run;

    Portrait(List<Player.Call> calls) {
        now = answers(calls);
        List<Player.Call> more = new ArrayList<>(calls);
        for (int i = 0; i < MOST_UNDONE + 1 && !throwsThen(more, UNDO); i++) {
            more.add(UNDO);
            undone.add(answers(more));
        }
        restored = answersAfter(calls, RESTORE);
        run = answersAfter(calls, RUN);
    }

    private static Map<String, String> answersAfter(List<Player.Call> calls, Player.Call last) {
        List<Player.Call> more = new ArrayList<>(calls);
        more.add(last);
        Map<String, String> answers = answers(more);
        answers.put(last.text, new Player(calls).answer(last));
        return answers;
    }

    private static boolean throwsThen(List<Player.Call> calls, Player.Call call) {
        return calls.size() >= Player.MOST_CALLS - 1 || new Player(calls).answer(call).startsWith("throws");
    }

    private static Map<String, String> answers(List<Player.Call> calls) {
        Player player = new Player(calls);
        List<Player.Call> questions = new ArrayList<>(OF_ALL);
        int matters = Integer.parseInt(player.answer(MATTERS));
        for (int i = 0; i < matters && i < OF_MATTERS.size(); i++) {
            questions.addAll(OF_MATTERS.get(i));
        }
        Map<String, String> answers = new LinkedHashMap<>();
        String ended = "";
        for (Player.Call question : questions) {
            if (question.name.equals(ended)) {
                continue;
            }
            if (player.callsLeft() == 0) {
                player = new Player(calls);
            }
            String answer = player.answer(question);
            answers.put(question.text, answer);
            ended = answer.startsWith("throws") && ENDING.contains(question.name) ? question.name : ended;
        }
        return answers;
    }

    private static List<Player.Call> questionsOfAll() {
        List<Player.Call> all = new ArrayList<>();
        ask(all, "account", 13);
        ask(all, "book", 8);
        ask(all, "ranked", 6);
        ask(all, "character", 39);
        for (String way : new String[] {"false", "true"}) {
            all.add(new Player.Call("coins", way));
            all.add(new Player.Call("refusal", way));
            for (int g = 0; g < 6; g++) {
                all.add(new Player.Call("canLearn", String.valueOf(g), way));
            }
        }
        for (String name : new String[] {"isAwake", "isWell", "meanDoubt", "sealedShare", "errorPosition"}) {
            all.add(new Player.Call(name));
        }
        for (int g = 0; g < 6; g++) {
            ask(all, "guildOf", String.valueOf(g), 6);
        }
        return all;
    }

    private static List<List<Player.Call>> questionsOfMatters() {
        List<List<Player.Call>> all = new ArrayList<>();
        for (int m = 0; m < 8; m++) {
            List<Player.Call> one = new ArrayList<>();
            String matter = String.valueOf(m);
            ask(one, "matterOf", matter, 8);
            ask(one, "answer", matter, 6);
            ask(one, "amount", matter, 6);
            one.add(new Player.Call("wouldSeal", matter));
            all.add(one);
        }
        return all;
    }

    private static void ask(List<Player.Call> all, String name, int bound) {
        for (int i = 0; i < bound; i++) {
            all.add(new Player.Call(name, String.valueOf(i)));
        }
    }

    private static void ask(List<Player.Call> all, String name, String first, int bound) {
        for (int i = 0; i < bound; i++) {
            all.add(new Player.Call(name, first, String.valueOf(i)));
        }
    }
}
