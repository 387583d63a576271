/**
 * Each call behind each other one, those that are refused among them: what both answer, and all that
 * is shown behind them, must be what the slow model answers and shows.
 */
public final class PairsTest {
    private static final String[] CALLS = {"yard(3, 3)", "yard(2, 2)", "yard(4, 1)", "yard(6, 1)", "kind(0, 2)",
        "kind(0, 3)", "kind(1, 3)", "kind(1, 0)", "kind(2, 2)", "kind(3, 0)", "lane(0, 1, 9, false)",
        "lane(2, 0, 0, true)", "lane(2, 1, 6, true)", "lane(1, 0, 4, true)", "lane(1, 1, 1, true)", "lanes()",
        "cost(0, 1)", "stand(7, false)", "stand(0, false)", "stand(21, true)", "stand(27, true)", "number(true)",
        "peg(2)", "disc(1, 0)", "why(2, 0)", "move(2, 0)", "move(0, 1)", "move(1, 2)", "move(2, 3)", "undo()",
        "redo()", "moves()", "fewest()", "plan()", "planned(1)", "ways()", "reach()", "far()", "farthest()",
        "joined(1)", "joined(4)", "rename(1, 2, 0, 9, 9)", "rename(1, 0, 2, 0, 0)", "rename(0, 0, 1, 2, 3)", "about()",
        "scheme()", "single(0, 1, 2)", "single(2, 0, 1)", "call(1, 0, 1, 0, 2, 1, 3, 4)", "call(0, 2, 1, 0, 1, 2, 3, 4)",
        "count(0, 4)", "count(0, 61)", "tried(0, 1, 0, 1, 2, 3, 4)", "tried(0, 2, 1, 2, 0, 3, 4)",
        "tried(1, 2, 0, 1, 2, 3, 4)", "tried(0, 4, 0, 1, 2, 3, 4)", "failed()", "trouble()", "size(6)"};

    /** What is kept of the rows of moves must not outlive a change, so they are asked for ahead of it. */
    private static final String[] AHEAD = Play.rows(Play.BUSY, new String[] {"reach() = 6", "joined(0) = 3"});

    private PairsTest() {
    }

    public static void main(String[] args) {
        for (String first : CALLS) {
            for (String second : CALLS) {
                Check.part(second + " behind " + first);
                String want = told(Play.onModel(AHEAD), first, second);
                Check.same("what is shown", told(new Play(AHEAD), first, second), want);
            }
        }
        Check.end();
    }

    private static String told(Play play, String first, String second) {
        return play.ask(first) + " " + play.ask(second) + " " + play.ask("trouble()") + " " + play.ask("failed()") + " "
                + play.picture();
    }
}
