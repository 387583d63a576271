import java.util.ArrayList;
import java.util.LinkedHashMap;
import java.util.List;
import java.util.Map;
import java.util.function.Function;

/**
 * All that a yard of up to three PEGS and three discs shows behind a run of calls. Each call that
 * shows something is asked on an object of its own, behind the same run, so that none of them can
 * hide what another one changes.
 */
final class Shown {
    private static final List<String> ASKED = asked();

    private Shown() {
    }

    private static List<String> asked() {
        List<String> calls = new ArrayList<>(List.of("trouble()", "failed()", "number(false)", "number(true)", "moves()",
                "undo()", "redo()", "fewest()", "plan()", "ways()", "reach()", "far()", "farthest()", "scheme()",
                "single(0, 0, 1)", "single(1, 0, 1)", "tried(0, 1, 0, 1, 2, 3, 4)", "tried(0, 2, 1, 2, 0, 3, 4)",
                "tried(0, 3, 0, 1, 2, 3, 4)", "tried(1, 1, 2, 0, 1, 3, 4)"));
        for (int what = 0; what < 9; what++) {
            calls.add("size(" + what + ")");
        }
        for (int a = 0; a < 4; a++) {
            calls.addAll(List.of("peg(" + a + ")", "joined(" + a + ")", "planned(" + a + ")", "count(" + a + ", 1)",
                    "count(" + a + ", 5)"));
            for (int b = 0; b < 4; b++) {
                calls.addAll(List.of("cost(" + a + ", " + b + ")", "why(" + a + ", " + b + ")",
                        "disc(" + a + ", " + b + ")"));
            }
        }
        return calls;
    }

    /** The answers, by what was asked, and behind them what the calls that change something lead to. */
    static Map<String, String> behind(Function<String[], Play> player, String... run) {
        Map<String, String> shown = new LinkedHashMap<>();
        for (String call : ASKED) {
            Play play = player.apply(run);
            StringBuilder answers = new StringBuilder().append(play.ask(call));
            if (call.equals("undo()") || call.equals("redo()")) {
                answers.append(" to ").append(play.ask("number(false)"));
            } else if (call.equals("plan()")) {
                answers.append(" by").append(planned(play));
            } else if (call.startsWith("tried")) {
                answers.append(" at ").append(play.ask("failed()"));
            }
            shown.put(call, answers.toString());
        }
        return shown;
    }

    private static String planned(Play play) {
        StringBuilder moves = new StringBuilder();
        long length = play.ask("size(6)");
        for (int k = 0; k < length; k++) {
            moves.append(' ').append(play.ask("planned(" + k + ")"));
        }
        return moves.toString();
    }

    /** What is unlike in two of them, told as "cost(0, 1): 5 > 9". */
    static List<String> unlike(Map<String, String> before, Map<String, String> after) {
        List<String> rows = new ArrayList<>();
        before.forEach((call, old) -> {
            if (!old.equals(after.get(call))) {
                rows.add(call + ": " + old + " > " + after.get(call));
            }
        });
        return rows;
    }
}
