import java.lang.reflect.InvocationTargetException;
import java.lang.reflect.Method;
import java.util.ArrayList;
import java.util.Arrays;
import java.util.List;
import java.util.Map;
import java.util.TreeMap;
import java.util.regex.Matcher;
import java.util.regex.Pattern;

/**
 * A run of calls on one object, each told as a text such as "move(0, 1) = 1". The words least, most
 * and none stand for the least and the greatest int and for NONE. As the document promises nothing
 * beyond 512 calls, a run that asks for more is a fault of the test.
 */
final class Play {
    /**
     * A yard with something of all: weak and STRONG LANES, a RINGED disc 1 and a HEAVY disc 2, a
     * PLAN, SCHEMES, a try that failed, two moves that can be undone and one that can be done again.
     */
    static final String[] BUSY = {"yard(3, 3) = true", "lane(0, 1, 5, true) = true", "lane(1, 2, 2, true) = true",
        "lane(2, 0, 3, true) = true", "lane(1, 0, 4, false) = true", "lane(0, 2, 7, false) = true",
        "stand(1, false) = true", "stand(6, true) = true", "kind(1, 2) = true", "kind(2, 1) = true", "plan() = 4",
        "scheme() = 0", "call(0, 0, 1, 0, 2, 1, 3, 4) = 1", "single(0, 0, 1) = 2", "call(0, 0, 1, 2, 1, 0, 3, 4) = 3",
        "scheme() = 1", "single(1, 0, 1) = 1", "tried(0, 3, 0, 1, 2, 3, 4) = -2", "failed() = 1",
        "move(1, 2) = 1", "move(0, 1) = 1", "move(2, 0) = 1", "undo() = 1"};

    private static final int MOST_CALLS = 512;
    private static final Pattern ROW = Pattern.compile("(\\w+)\\(([^)]*)\\)(?: = (\\S+))?");
    private static final Map<String, Method> FACE = face(DiscYard.class);
    private static final Map<String, Method> MODEL = face(PlainYard.class);

    private final Object yard;
    private final Map<String, Method> methods;
    private int calls;

    Play(String... rows) {
        yard = new DiscYard();
        methods = FACE;
        say(rows);
    }

    private Play(PlainYard model) {
        yard = model;
        methods = MODEL;
    }

    /** The same run of calls on the slow model. */
    static Play onModel(String... rows) {
        return new Play(new PlainYard()).say(rows);
    }

    private static Map<String, Method> face(Class<?> holder) {
        Map<String, Method> face = new TreeMap<>();
        for (Method method : holder.getDeclaredMethods()) {
            face.put(method.getName(), method);
        }
        return face;
    }

    /** Calls whose answers must be the ones told behind the '='; without one any answer will do. */
    Play say(String... rows) {
        for (String row : rows) {
            Matcher told = parsed(row);
            long got = ask(row);
            if (told.group(3) != null) {
                Check.due(row, got, number(told.group(3)));
            }
        }
        return this;
    }

    /** Calls that are not refused: trouble(), which told another number ahead of each, tells 0. */
    Play taken(String... rows) {
        for (String row : rows) {
            say("yard(0, 0) = false", row);
            Check.due("trouble() behind " + row, ask("trouble()"), 0);
        }
        return this;
    }

    /** Calls that are refused, by trouble()'s number. */
    Play refused(int trouble, String... rows) {
        for (String row : rows) {
            long no = FACE.get(parsed(row).group(1)).getReturnType() == boolean.class ? 0 : -1;
            Check.due(row, ask(row), no);
            Check.due("trouble() behind " + row, ask("trouble()"), trouble);
        }
        return this;
    }

    /** Calls that can't be refused: trouble() tells behind them what it told ahead of them. */
    Play untroubled(String... rows) {
        for (String row : rows) {
            say("stand(" + ask("number(true)") + ", true) = true", row);
            Check.due("trouble() behind " + row, ask("trouble()"), 0);
            say("move(0, 0) = none", row);
            Check.due("trouble() behind " + row, ask("trouble()"), 4);
        }
        return this;
    }

    /** Calls behind which all that is shown of the yard is as it was. */
    Play kept(String... rows) {
        for (String row : rows) {
            String before = picture();
            say(row);
            Check.same("what is shown behind " + row, picture(), before);
        }
        return this;
    }

    /** Each call, alone on an object behind the same rows, is refused, and all else stays as it was. */
    static void refusals(int trouble, String[] ahead, String... rows) {
        for (String row : rows) {
            Play play = new Play(ahead);
            String before = play.picture();
            long failed = row.startsWith("tried(") ? -1 : play.ask("failed()");
            play.refused(trouble, row);
            Check.due("failed() behind " + row, play.ask("failed()"), failed);
            Check.same("what is shown behind " + row, play.picture(), before);
        }
    }

    /** One call for each word, which takes the place of the '?'. */
    static String[] with(String row, Object... words) {
        return Arrays.stream(words).map(word -> row.replace("?", word.toString())).toArray(String[]::new);
    }

    static String[] rows(String[]... parts) {
        List<String> all = new ArrayList<>();
        for (String[] part : parts) {
            all.addAll(Arrays.asList(part));
        }
        return all.toArray(new String[0]);
    }

    long ask(String row) {
        Matcher told = parsed(row);
        Method method = methods.get(told.group(1));
        String[] words = told.group(2).isEmpty() ? new String[0] : told.group(2).split(", ");
        Class<?>[] types = method.getParameterTypes();
        Object[] values = new Object[words.length];
        for (int k = 0; k < words.length; k++) {
            if (types[k] == boolean.class) {
                values[k] = Boolean.valueOf(words[k]);
            } else {
                values[k] = (int) number(words[k]);
            }
        }
        calls++;
        if (calls > MOST_CALLS) {
            Check.due("calls on one object", calls, MOST_CALLS);
        }
        try {
            Object answer = method.invoke(yard, values);
            return answer instanceof Boolean yes ? (yes ? 1 : 0) : ((Number) answer).longValue();
        } catch (InvocationTargetException | IllegalAccessException fault) {
            throw new IllegalStateException(row, fault);
        }
    }

    private static Matcher parsed(String row) {
        Matcher told = ROW.matcher(row);
        if (!told.matches()) {
            throw new IllegalArgumentException(row);
        }
        return told;
    }

    private static long number(String word) {
        return switch (word) {
            case "least" -> Integer.MIN_VALUE;
            case "most" -> Integer.MAX_VALUE;
            case "none" -> -1;
            case "true" -> 1;
            case "false" -> 0;
            default -> Long.parseLong(word);
        };
    }

    /** All that the calls that change nothing (but failed()) show, and what undo() and redo() lead to. */
    String picture() {
        StringBuilder text = new StringBuilder();
        for (int what = 0; what < 8; what++) {
            show(text, "size(" + what + ")");
        }
        int pegs = (int) ask("size(0)");
        int discs = (int) ask("size(1)");
        show(text, "number(false)", "number(true)", "moves()");
        for (int a = 0; a < pegs; a++) {
            for (int b = 0; b < pegs; b++) {
                show(text, "cost(" + a + ", " + b + ")", "why(" + a + ", " + b + ")");
            }
            for (int k = 0; k < discs; k++) {
                show(text, "disc(" + a + ", " + k + ")");
            }
        }
        for (int k = 0; k < discs; k++) {
            show(text, "peg(" + k + ")");
        }
        for (int k = 0; k < 4; k++) {
            show(text, "planned(" + k + ")", "joined(" + k + ")");
        }
        show(text, "fewest()", "ways()", "reach()", "far()", "farthest()");
        long schemes = ask("size(3)");
        for (int s = 0; s < schemes; s++) {
            show(text, "count(" + s + ", 1)", "count(" + s + ", 5)", "count(" + s + ", 60)");
        }
        walk(text, "undo()", "redo()", Math.min(4, ask("size(4)")));
        walk(text, "redo()", "undo()", Math.min(4, ask("size(5)")));
        return text.toString();
    }

    private void show(StringBuilder text, String... rows) {
        for (String row : rows) {
            text.append(row).append(' ').append(ask(row)).append("; ");
        }
    }

    private void walk(StringBuilder text, String there, String back, long steps) {
        for (int k = 0; k < steps; k++) {
            show(text, there, "number(false)");
        }
        for (int k = 0; k < steps; k++) {
            ask(back);
        }
    }
}
