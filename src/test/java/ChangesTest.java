import java.util.ArrayList;
import java.util.List;
import java.util.Map;

/**
 * What each call changes, asked of all calls that show it: ahead of it and behind it everything is
 * asked that a yard shows, and what is unlike must be what is told here, no less and no more.
 */
public final class ChangesTest {
    /**
     * What is kept of the rows of moves must not outlive a change, so they are asked for here; the
     * latest call was refused with 4, so that each call behind it shows what it does to trouble().
     */
    private static final String[] BUSY =
            Play.rows(Play.BUSY, new String[] {"reach() = 6", "joined(0) = 3", "count(0, 3) = 7", "move(0, 0) = none"});
    /** Two discs that go as one, and a third one below them; two MOVES of which one is undone. */
    private static final String[] STICKY = {"yard(3, 3) = true", "lanes() = 6", "kind(0, 3) = true", "kind(1, 3) = true",
        "stand(13, true) = true", "plan() = 3", "scheme() = 0", "call(0, 0, 1, 0, 2, 1, 3, 4) = 1",
        "single(0, 0, 1) = 2", "call(0, 0, 1, 2, 1, 0, 3, 4) = 3", "move(0, 1) = 2", "move(0, 2) = 1", "undo() = 1",
        "reach() = 9", "joined(0) = 4", "move(0, 0) = none"};
    private static final String[] FULL = Play.rows(BUSY, Play.with("scheme() = ?", 2, 3, 4, 5, 6, 7),
            Play.with("single(0, 0, 1) = ?", 4, 5, 6, 7, 8), new String[] {"move(0, 0) = none"});
    private static final String[] TOO_MANY = Play.rows(Play.BUSY, new String[] {"yard(5, 7) = true", "lanes() = 20",
        "stand(78124, true) = true", "move(0, 4) = 1", "move(0, 3) = 1", "undo() = 1", "move(0, 0) = none"});

    private ChangesTest() {
    }

    public static void main(String[] args) {
        yardOfTheSameSize();
        lesserYard();
        yardOfTooManyStands();
        kindRinged();
        kindSticky();
        kindNoLongerRinged();
        kindNoLongerHeavy();
        kindAsItWas();
        kindJoinsAPack();
        kindLeavesAPack();
        laneDearer();
        laneTaken();
        laneNew();
        laneNoLongerStrong();
        laneStrong();
        allLanes();
        newStand();
        newGoal();
        standAsItWas();
        moveOfOne();
        moveOfAPack();
        undone();
        undoneOfAPack();
        doneAgain();
        newPlan();
        renamed();
        renamedToTheSame();
        turnedAbout();
        newScheme();
        singleBehindOthers();
        singleOfAnother();
        callBehindOthers();
        callOfAnother();
        triedWell();
        triedInVain();
        triedAndRefused();
        readingChangesNothing();
        refusedCallsChangeTroubleAlone();
        answersThatAreNoRefusal();
        Check.end();
    }

    private static void changes(String[] ahead, String call, String... unlike) {
        Check.part("behind " + call);
        Map<String, String> before = Shown.behind(Play::new, ahead);
        Map<String, String> after = Shown.behind(Play::new, Play.rows(ahead, new String[] {call}));
        List<String> missed = new ArrayList<>(List.of(unlike));
        List<String> found = Shown.unlike(before, after);
        missed.removeAll(found);
        found.removeAll(List.of(unlike));
        Check.same("what did not change as is due", missed.toString(), "[]");
        Check.same("what changed though it should not", found.toString(), "[]");
    }

    private static void yardOfTheSameSize() {
        changes(BUSY, "yard(3, 3) = true",
                "trouble(): 4 > 0", "number(false): 5 > 0", "number(true): 6 > 0", "moves(): 1 > 0",
                "undo(): 1 to 2 > 0 to 0", "redo(): 1 to 3 > 0 to 0", "fewest(): 5 > 0", "plan(): 2 by 20 12 > 0 by",
                "reach(): 6 > 1", "far(): 15 > 0", "farthest(): 2 > 0", "tried(0, 1, 0, 1, 2, 3, 4): 1 at -1 > -2 at 0",
                "tried(0, 2, 1, 2, 0, 3, 4): -2 at 2 > -2 at 0", "tried(0, 3, 0, 1, 2, 3, 4): -2 at 1 > -2 at 0",
                "tried(1, 1, 2, 0, 1, 3, 4): 1 at -1 > -2 at 0", "size(2): 5 > 0", "size(4): 2 > 0", "size(5): 1 > 0",
                "size(7): 24 > 0", "peg(0): 2 > 0", "joined(0): 3 > 27", "cost(0, 1): 5 > 0", "why(0, 1): 4 > 1",
                "disc(0, 1): -1 > 1", "cost(0, 2): 7 > 0", "why(0, 2): 3 > 1", "disc(0, 2): -1 > 0", "peg(1): 1 > 0",
                "joined(1): 6 > 1", "cost(1, 0): 4 > 0", "why(1, 0): 3 > 1", "disc(1, 0): 1 > -1", "cost(1, 2): 2 > 0",
                "why(1, 2): 4 > 1", "joined(2): 3 > 27", "cost(2, 0): 3 > 0", "why(2, 0): 0 > 1", "disc(2, 0): 0 > -1",
                "joined(3): 6 > 1");
    }

    private static void lesserYard() {
        changes(BUSY, "yard(2, 2) = true",
                "trouble(): 4 > 0", "number(false): 5 > 0", "number(true): 6 > 0", "moves(): 1 > 0",
                "undo(): 1 to 2 > 0 to 0", "redo(): 1 to 3 > 0 to 0", "fewest(): 5 > 0", "plan(): 2 by 20 12 > 0 by",
                "reach(): 6 > 1", "far(): 15 > 0", "farthest(): 2 > 0", "tried(0, 1, 0, 1, 2, 3, 4): 1 at -1 > -2 at 0",
                "tried(0, 2, 1, 2, 0, 3, 4): -2 at 2 > -1 at -1", "tried(0, 3, 0, 1, 2, 3, 4): -2 at 1 > -1 at -1",
                "tried(1, 1, 2, 0, 1, 3, 4): 1 at -1 > -1 at -1", "size(0): 3 > 2", "size(1): 3 > 2", "size(2): 5 > 0",
                "size(4): 2 > 0", "size(5): 1 > 0", "size(7): 24 > 0", "peg(0): 2 > 0", "joined(0): 3 > 4",
                "disc(0, 0): 2 > 1", "cost(0, 1): 5 > 0", "why(0, 1): 4 > 1", "disc(0, 1): -1 > 0",
                "cost(0, 2): 7 > -1", "why(0, 2): 3 > -1", "peg(1): 1 > 0", "joined(1): 6 > 1", "cost(1, 0): 4 > 0",
                "why(1, 0): 3 > 1", "disc(1, 0): 1 > -1", "cost(1, 2): 2 > -1", "why(1, 2): 4 > -1", "peg(2): 0 > -1",
                "joined(2): 3 > 4", "cost(2, 0): 3 > -1", "why(2, 0): 0 > -1", "disc(2, 0): 0 > -1",
                "cost(2, 1): 0 > -1", "why(2, 1): 1 > -1", "cost(2, 2): 0 > -1", "why(2, 2): 1 > -1",
                "joined(3): 6 > 1");
    }

    private static void yardOfTooManyStands() {
        changes(BUSY, "yard(5, 7) = true",
                "trouble(): 4 > 0", "number(false): 5 > 0", "number(true): 6 > 0", "moves(): 1 > 0",
                "undo(): 1 to 2 > 0 to 0", "redo(): 1 to 3 > 0 to 0", "fewest(): 5 > -1",
                "plan(): 2 by 20 12 > -1 by 12 1 20 12", "ways(): 1 > -1", "reach(): 6 > -1", "far(): 15 > -1",
                "farthest(): 2 > -1", "tried(0, 1, 0, 1, 2, 3, 4): 1 at -1 > -2 at 0",
                "tried(0, 2, 1, 2, 0, 3, 4): -2 at 2 > -2 at 0", "tried(0, 3, 0, 1, 2, 3, 4): -2 at 1 > -2 at 0",
                "tried(1, 1, 2, 0, 1, 3, 4): 1 at -1 > -2 at 0", "size(0): 3 > 5", "size(1): 3 > 7", "size(2): 5 > 0",
                "size(4): 2 > 0", "size(5): 1 > 0", "size(7): 24 > 0", "peg(0): 2 > 0", "joined(0): 3 > -1",
                "disc(0, 0): 2 > 6", "cost(0, 1): 5 > 0", "why(0, 1): 4 > 1", "disc(0, 1): -1 > 5", "cost(0, 2): 7 > 0",
                "why(0, 2): 3 > 1", "disc(0, 2): -1 > 4", "cost(0, 3): -1 > 0", "why(0, 3): -1 > 1",
                "disc(0, 3): -1 > 3", "peg(1): 1 > 0", "joined(1): 6 > -1", "cost(1, 0): 4 > 0", "why(1, 0): 3 > 1",
                "disc(1, 0): 1 > -1", "cost(1, 2): 2 > 0", "why(1, 2): 4 > 1", "cost(1, 3): -1 > 0",
                "why(1, 3): -1 > 1", "joined(2): 3 > -1", "cost(2, 0): 3 > 0", "why(2, 0): 0 > 1", "disc(2, 0): 0 > -1",
                "cost(2, 3): -1 > 0", "why(2, 3): -1 > 1", "peg(3): -1 > 0", "joined(3): 6 > -1", "cost(3, 0): -1 > 0",
                "why(3, 0): -1 > 1", "cost(3, 1): -1 > 0", "why(3, 1): -1 > 1", "cost(3, 2): -1 > 0",
                "why(3, 2): -1 > 1", "cost(3, 3): -1 > 0", "why(3, 3): -1 > 1");
    }

    private static void kindRinged() {
        changes(BUSY, "kind(0, 2) = true",
                "trouble(): 4 > 0", "undo(): 1 to 2 > 0 to 5", "redo(): 1 to 3 > 0 to 5", "reach(): 6 > 27",
                "far(): 15 > 59", "farthest(): 2 > 26", "tried(0, 2, 1, 2, 0, 3, 4): -2 at 2 > -2 at 0",
                "size(4): 2 > 0", "size(5): 1 > 0", "size(7): 24 > 26", "joined(0): 3 > 1", "joined(1): 6 > 27",
                "joined(2): 3 > 1", "joined(3): 6 > 27");
    }

    private static void kindSticky() {
        changes(BUSY, "kind(0, 3) = true",
                "trouble(): 4 > 0", "undo(): 1 to 2 > 0 to 5", "redo(): 1 to 3 > 0 to 5", "size(4): 2 > 0",
                "size(5): 1 > 0", "size(7): 24 > 27");
    }

    private static void kindNoLongerRinged() {
        changes(BUSY, "kind(1, 0) = true",
                "trouble(): 4 > 0", "moves(): 1 > 2", "undo(): 1 to 2 > 0 to 5", "redo(): 1 to 3 > 0 to 5",
                "reach(): 6 > 27", "far(): 15 > 54", "farthest(): 2 > 22",
                "tried(0, 2, 1, 2, 0, 3, 4): -2 at 2 > 3 at -1", "tried(0, 3, 0, 1, 2, 3, 4): -2 at 1 > -2 at 5",
                "size(4): 2 > 0", "size(5): 1 > 0", "size(7): 24 > 16", "joined(0): 3 > 1", "joined(1): 6 > 27",
                "why(1, 0): 3 > 0", "joined(2): 3 > 1", "joined(3): 6 > 27");
    }

    private static void kindNoLongerHeavy() {
        changes(BUSY, "kind(2, 0) = true",
                "trouble(): 4 > 0", "undo(): 1 to 2 > 0 to 5", "redo(): 1 to 3 > 0 to 5", "size(4): 2 > 0",
                "size(5): 1 > 0", "size(7): 24 > 8", "why(0, 2): 3 > 4");
    }

    private static void kindAsItWas() {
        changes(BUSY, "kind(0, 0) = true",
                "trouble(): 4 > 0", "undo(): 1 to 2 > 0 to 5", "redo(): 1 to 3 > 0 to 5", "size(4): 2 > 0",
                "size(5): 1 > 0");
    }

    private static void kindJoinsAPack() {
        changes(STICKY, "kind(2, 3) = true",
                "trouble(): 4 > 0", "undo(): 1 to 0 > 0 to 4", "redo(): 1 to 22 > 0 to 4", "fewest(): 3 > 2",
                "plan(): 3 by 12 1 21 > 2 by 10 1", "size(4): 1 > 0", "size(5): 1 > 0", "size(7): 15 > 63",
                "joined(0): 4 > 6", "joined(1): 9 > 6", "joined(3): 9 > 6");
    }

    private static void kindLeavesAPack() {
        changes(STICKY, "kind(1, 0) = true",
                "trouble(): 4 > 0", "undo(): 1 to 0 > 0 to 4", "redo(): 1 to 22 > 0 to 4", "fewest(): 3 > 7",
                "plan(): 3 by 12 1 21 > 7 by 10 12 2 1 20 21 1", "reach(): 9 > 27", "far(): 3 > 7",
                "farthest(): 9 > 13", "tried(0, 1, 0, 1, 2, 3, 4): -2 at 0 > 1 at -1",
                "tried(0, 2, 1, 2, 0, 3, 4): -2 at 0 > 3 at -1", "tried(0, 3, 0, 1, 2, 3, 4): -2 at 0 > 7 at -1",
                "size(4): 1 > 0", "size(5): 1 > 0", "size(7): 15 > 3", "joined(0): 4 > 1", "joined(1): 9 > 27",
                "joined(3): 9 > 27");
    }

    private static void laneDearer() {
        changes(BUSY, "lane(0, 1, 9, true) = true",
                "trouble(): 4 > 0", "undo(): 1 to 2 > 0 to 5", "redo(): 1 to 3 > 0 to 5", "far(): 15 > 19",
                "size(4): 2 > 0", "size(5): 1 > 0", "cost(0, 1): 5 > 9");
    }

    private static void laneTaken() {
        changes(BUSY, "lane(0, 1, 0, false) = true",
                "trouble(): 4 > 0", "undo(): 1 to 2 > 0 to 5", "redo(): 1 to 3 > 0 to 5", "reach(): 6 > 3",
                "far(): 15 > 5", "farthest(): 2 > 6", "tried(0, 1, 0, 1, 2, 3, 4): 1 at -1 > -2 at 0",
                "tried(0, 3, 0, 1, 2, 3, 4): -2 at 1 > -2 at 0", "size(2): 5 > 4", "size(4): 2 > 0", "size(5): 1 > 0",
                "joined(0): 3 > 15", "cost(0, 1): 5 > 0", "why(0, 1): 4 > 1", "joined(1): 6 > 2", "joined(2): 3 > 6",
                "joined(3): 6 > 2");
    }

    private static void laneNew() {
        changes(BUSY, "lane(2, 1, 6, false) = true",
                "trouble(): 4 > 0", "undo(): 1 to 2 > 0 to 5", "redo(): 1 to 3 > 0 to 5", "size(2): 5 > 6",
                "size(4): 2 > 0", "size(5): 1 > 0", "cost(2, 1): 0 > 6", "why(2, 1): 1 > 5");
    }

    private static void laneNoLongerStrong() {
        changes(BUSY, "lane(2, 0, 3, false) = true",
                "trouble(): 4 > 0", "undo(): 1 to 2 > 0 to 5", "redo(): 1 to 3 > 0 to 5", "reach(): 6 > 4",
                "far(): 15 > 10", "farthest(): 2 > 7", "size(4): 2 > 0", "size(5): 1 > 0", "joined(0): 3 > 12",
                "joined(1): 6 > 2", "joined(3): 6 > 2");
    }

    private static void laneStrong() {
        changes(BUSY, "lane(1, 0, 4, true) = true",
                "trouble(): 4 > 0", "moves(): 1 > 2", "undo(): 1 to 2 > 0 to 5", "redo(): 1 to 3 > 0 to 5",
                "far(): 15 > 13", "farthest(): 2 > 1", "size(4): 2 > 0", "size(5): 1 > 0", "why(1, 0): 3 > 0");
    }

    private static void allLanes() {
        changes(BUSY, "lanes() = 6",
                "moves(): 1 > 2", "undo(): 1 to 2 > 0 to 5", "redo(): 1 to 3 > 0 to 5", "fewest(): 5 > 2",
                "far(): 15 > 3", "farthest(): 2 > 7", "tried(0, 3, 0, 1, 2, 3, 4): -2 at 1 > -2 at 2", "size(2): 5 > 6",
                "size(4): 2 > 0", "size(5): 1 > 0", "cost(0, 1): 5 > 1", "cost(0, 2): 7 > 1", "why(0, 2): 3 > 4",
                "cost(1, 0): 4 > 1", "why(1, 0): 3 > 0", "cost(1, 2): 2 > 1", "cost(2, 0): 3 > 1", "cost(2, 1): 0 > 1",
                "why(2, 1): 1 > 5");
    }

    private static void newStand() {
        changes(BUSY, "stand(7, false) = true",
                "trouble(): 4 > 0", "number(false): 5 > 7", "moves(): 1 > 2", "undo(): 1 to 2 > 0 to 7",
                "redo(): 1 to 3 > 0 to 7", "fewest(): 5 > 4", "plan(): 2 by 20 12 > 1 by 10", "far(): 15 > 13",
                "farthest(): 2 > 3", "size(4): 2 > 0", "size(5): 1 > 0", "peg(0): 2 > 1", "peg(1): 1 > 2",
                "why(1, 0): 3 > 0", "disc(1, 0): 1 > 0", "why(1, 2): 4 > 5", "disc(2, 0): 0 > 1");
    }

    private static void newGoal() {
        changes(BUSY, "stand(7, true) = true",
                "trouble(): 4 > 0", "number(true): 6 > 7", "fewest(): 5 > 10", "plan(): 2 by 20 12 > 3 by 20 12 1");
    }

    private static void standAsItWas() {
        changes(BUSY, "stand(5, false) = true",
                "trouble(): 4 > 0", "undo(): 1 to 2 > 0 to 5", "redo(): 1 to 3 > 0 to 5", "size(4): 2 > 0",
                "size(5): 1 > 0");
    }

    private static void moveOfOne() {
        changes(BUSY, "move(2, 0) = 1",
                "trouble(): 4 > 0", "number(false): 5 > 3", "moves(): 1 > 2", "undo(): 1 to 2 > 1 to 5",
                "redo(): 1 to 3 > 0 to 3", "fewest(): 5 > 2", "plan(): 2 by 20 12 > 1 by 12", "far(): 15 > 12",
                "size(4): 2 > 3", "size(5): 1 > 0", "peg(0): 2 > 0", "why(0, 1): 4 > 5", "disc(0, 1): -1 > 0",
                "why(0, 2): 3 > 0", "why(1, 2): 4 > 0", "why(2, 0): 0 > 2", "disc(2, 0): 0 > -1");
    }

    private static void moveOfAPack() {
        changes(STICKY, "move(1, 2) = 2",
                "trouble(): 4 > 0", "number(false): 4 > 8", "undo(): 1 to 0 > 1 to 4", "redo(): 1 to 22 > 0 to 8",
                "fewest(): 3 > 2", "plan(): 3 by 12 1 21 > 2 by 1 21", "farthest(): 9 > 18", "size(4): 1 > 2",
                "size(5): 1 > 0", "peg(0): 1 > 2", "why(0, 1): 4 > 0", "why(0, 2): 0 > 4", "peg(1): 1 > 2",
                "why(1, 0): 0 > 2", "disc(1, 0): 1 > -1", "disc(1, 1): 0 > -1", "why(1, 2): 0 > 2", "why(2, 0): 2 > 0",
                "disc(2, 0): -1 > 1", "why(2, 1): 2 > 0", "disc(2, 1): -1 > 0");
    }

    private static void undone() {
        changes(BUSY, "undo() = 1",
                "number(false): 5 > 2", "undo(): 1 to 2 > 1 to 1", "redo(): 1 to 3 > 1 to 5", "fewest(): 5 > 10",
                "plan(): 2 by 20 12 > 3 by 1 20 12", "far(): 15 > 18", "farthest(): 2 > 1", "size(4): 2 > 1",
                "size(5): 1 > 2", "why(0, 1): 4 > 0", "disc(0, 1): -1 > 1", "peg(1): 1 > 0", "why(1, 0): 3 > 2",
                "disc(1, 0): 1 > -1", "why(1, 2): 4 > 2", "why(2, 0): 0 > 5");
    }

    private static void undoneOfAPack() {
        changes(STICKY, "undo() = 1",
                "number(false): 4 > 0", "moves(): 3 > 2", "undo(): 1 to 0 > 0 to 0", "redo(): 1 to 22 > 1 to 4",
                "plan(): 3 by 12 1 21 > 3 by 2 1 21", "size(4): 1 > 0", "size(5): 1 > 2", "peg(0): 1 > 0",
                "why(0, 1): 4 > 0", "disc(0, 1): -1 > 1", "disc(0, 2): -1 > 0", "peg(1): 1 > 0", "why(1, 0): 0 > 2",
                "disc(1, 0): 1 > -1", "disc(1, 1): 0 > -1", "why(1, 2): 0 > 2");
    }

    private static void doneAgain() {
        changes(BUSY, "redo() = 1",
                "number(false): 5 > 3", "moves(): 1 > 2", "undo(): 1 to 2 > 1 to 5", "redo(): 1 to 3 > 0 to 3",
                "fewest(): 5 > 2", "plan(): 2 by 20 12 > 1 by 12", "far(): 15 > 12", "size(4): 2 > 3", "size(5): 1 > 0",
                "peg(0): 2 > 0", "why(0, 1): 4 > 5", "disc(0, 1): -1 > 0", "why(0, 2): 3 > 0", "why(1, 2): 4 > 0",
                "why(2, 0): 0 > 2", "disc(2, 0): 0 > -1");
    }

    private static void newPlan() {
        changes(BUSY, "plan() = 2",
                "trouble(): 4 > 0", "size(6): 4 > 2", "planned(0): 12 > 20", "planned(1): 1 > 12",
                "planned(2): 20 > -1", "planned(3): 12 > -1");
    }

    private static void renamed() {
        changes(BUSY, "rename(1, 2, 0, 9, 9) = true",
                "trouble(): 4 > 0", "number(false): 5 > 15", "number(true): 6 > 10", "undo(): 1 to 2 > 0 to 15",
                "redo(): 1 to 3 > 0 to 15", "plan(): 2 by 20 12 > 2 by 1 20", "farthest(): 2 > 12", "size(4): 2 > 0",
                "size(5): 1 > 0", "peg(0): 2 > 0", "disc(0, 0): 2 > 0", "cost(0, 1): 5 > 3", "why(0, 1): 4 > 0",
                "cost(0, 2): 7 > 0", "why(0, 2): 3 > 1", "peg(1): 1 > 2", "cost(1, 0): 4 > 7", "disc(1, 0): 1 > 2",
                "cost(1, 2): 2 > 5", "peg(2): 0 > 1", "cost(2, 0): 3 > 2", "why(2, 0): 0 > 4", "disc(2, 0): 0 > 1",
                "cost(2, 1): 0 > 4", "why(2, 1): 1 > 3");
    }

    private static void renamedToTheSame() {
        changes(BUSY, "rename(0, 1, 2, 9, 9) = true",
                "trouble(): 4 > 0", "undo(): 1 to 2 > 0 to 5", "redo(): 1 to 3 > 0 to 5", "size(4): 2 > 0",
                "size(5): 1 > 0");
    }

    private static void turnedAbout() {
        changes(BUSY, "about() = 5",
                "number(false): 5 > 6", "number(true): 6 > 5", "moves(): 1 > 2", "undo(): 1 to 2 > 0 to 6",
                "redo(): 1 to 3 > 0 to 6", "plan(): 2 by 20 12 > 2 by 21 2", "far(): 15 > 12", "farthest(): 2 > 1",
                "tried(0, 2, 1, 2, 0, 3, 4): -2 at 2 > -2 at 1", "tried(0, 3, 0, 1, 2, 3, 4): -2 at 1 > -2 at 2",
                "size(4): 2 > 0", "size(5): 1 > 0", "peg(0): 2 > 0", "cost(0, 1): 5 > 4", "why(0, 1): 4 > 0",
                "disc(0, 1): -1 > 0", "cost(0, 2): 7 > 3", "why(0, 2): 3 > 5", "peg(1): 1 > 2", "cost(1, 0): 4 > 5",
                "why(1, 0): 3 > 2", "disc(1, 0): 1 > -1", "cost(1, 2): 2 > 0", "why(1, 2): 4 > 1", "cost(2, 0): 3 > 7",
                "why(2, 0): 0 > 3", "disc(2, 0): 0 > 1", "cost(2, 1): 0 > 2", "why(2, 1): 1 > 0");
    }

    private static void newScheme() {
        changes(BUSY, "scheme() = 2",
                "trouble(): 4 > 0", "scheme(): 2 > 3", "size(3): 2 > 3", "count(2, 1): -1 > 0", "count(2, 5): -1 > 0");
    }

    private static void singleBehindOthers() {
        changes(BUSY, "single(0, 1, 2) = 4",
                "trouble(): 4 > 0", "single(0, 0, 1): 4 > 5", "tried(0, 1, 0, 1, 2, 3, 4): 1 at -1 > -3 at -1",
                "tried(0, 3, 0, 1, 2, 3, 4): -2 at 1 > -2 at 2", "count(0, 1): 1 > 2", "count(0, 5): 31 > 62");
    }

    private static void singleOfAnother() {
        changes(BUSY, "single(1, 1, 2) = 2",
                "trouble(): 4 > 0", "single(1, 0, 1): 2 > 3", "tried(1, 1, 2, 0, 1, 3, 4): 1 at -1 > -3 at -1",
                "count(1, 1): 1 > 2", "count(1, 5): 1 > 2");
    }

    private static void callBehindOthers() {
        changes(BUSY, "call(0, 1, 3, 0, 2, 1, 3, 4) = 4",
                "trouble(): 4 > 0", "single(0, 0, 1): 4 > 5", "count(0, 5): 31 > 34");
    }

    private static void callOfAnother() {
        changes(BUSY, "call(1, 0, 1, 0, 2, 1, 3, 4) = 2",
                "trouble(): 4 > 0", "single(1, 0, 1): 2 > 3", "count(1, 5): 1 > 16");
    }

    private static void triedWell() {
        changes(BUSY, "tried(0, 1, 0, 1, 2, 3, 4) = 1",
                "trouble(): 4 > 0", "failed(): 1 > -1");
    }

    private static void triedInVain() {
        changes(BUSY, "tried(0, 2, 1, 2, 0, 3, 4) = -2",
                "trouble(): 4 > 0", "failed(): 1 > 2");
    }

    private static void triedAndRefused() {
        changes(BUSY, "tried(0, 0, 1, 2, 0, 3, 4) = none",
                "trouble(): 4 > 1", "failed(): 1 > -1");
    }

    private static void readingChangesNothing() {
        for (String call : new String[] {"cost(0, 1) = 5", "cost(0, 3) = none", "number(false) = 5", "number(true) = 6",
            "peg(0) = 2", "peg(3) = none", "disc(0, 0) = 2", "disc(0, 1) = none", "disc(3, 0) = none", "why(2, 0) = 0",
            "why(0, 1) = 4", "why(0, 3) = none", "moves() = 1", "planned(0) = 12", "planned(4) = none", "failed() = 1",
            "trouble() = 4", "size(0) = 3", "size(6) = 4", "size(8) = none"}) {
            changes(BUSY, call);
        }
        for (String call : new String[] {"fewest() = 5", "ways() = 1", "reach() = 6", "far() = 15", "farthest() = 2",
            "joined(0) = 3", "joined(1) = 6", "joined(2) = 3", "joined(3) = 6", "count(0, 0) = 0",
            "count(0, 60) = 1000000000000000000"}) {
            changes(BUSY, call, "trouble(): 4 > 0");
        }
        // There is nothing to undo, nothing to do again.
        String[] fresh = {"move(0, 0) = none"};
        changes(fresh, "undo() = 0");
        changes(fresh, "redo() = 0");
    }

    private static void refusedCallsChangeTroubleAlone() {
        for (String call : new String[] {"yard(1, 3) = false", "yard(3, 8) = false", "kind(3, 0) = false",
            "kind(0, 4) = false", "lane(0, 0, 1, true) = false", "lane(0, 1, 101, true) = false",
            "lane(0, 3, 1, true) = false", "stand(27, false) = false", "stand(-1, true) = false", "move(0, 3) = none",
            "move(-1, 0) = none", "joined(4) = none", "rename(0, 0, 1, 2, 3) = false", "rename(1, 2, 3, 0, 4) = false",
            "single(2, 0, 1) = none", "single(0, 1, 1) = none", "single(0, 0, 5) = none",
            "call(0, 2, 1, 0, 1, 2, 3, 4) = none", "call(0, 1, 5, 0, 1, 2, 3, 4) = none",
            "call(0, 1, 1, 0, 1, 2, 3, 3) = none", "count(2, 1) = none", "count(0, 61) = none"}) {
            changes(BUSY, call, "trouble(): 4 > 1");
        }
        for (String call : new String[] {"fewest() = none", "plan() = none", "ways() = none", "reach() = none",
            "far() = none", "farthest() = none", "joined(0) = none", "joined(4) = none"}) {
            changes(TOO_MANY, call, "trouble(): 4 > 2");
        }
        changes(BUSY, "stand(0, false) = false", "trouble(): 4 > 3");
        changes(BUSY, "stand(0, true) = false", "trouble(): 4 > 3");
        String[] below = {"yard(3, 3) = true", "lanes() = 6", "move(0, 1) = 1", "reach() = 27", "joined(0) = 1",
            "move(0, 0) = none"};
        changes(below, "kind(1, 2) = false", "trouble(): 4 > 3");
        for (String call : new String[] {"move(0, 1) = none", "move(0, 2) = none", "move(2, 1) = none",
            "move(1, 2) = none"}) {
            changes(Play.rows(BUSY, new String[] {"joined(4) = none"}), call, "trouble(): 1 > 4");
        }
        changes(FULL, "scheme() = none", "trouble(): 4 > 5");
        changes(FULL, "single(0, 0, 1) = none", "trouble(): 4 > 5");
        changes(FULL, "call(0, 0, 1, 0, 1, 2, 3, 4) = none", "trouble(): 4 > 5");
    }

    private static void answersThatAreNoRefusal() {
        String[] apart = Play.rows(Play.BUSY, new String[] {"stand(1, true) = true", "lane(0, 1, 0, true) = true",
            "reach() = 3", "joined(0) = 15", "move(0, 0) = none"});
        changes(apart, "fewest() = -2", "trouble(): 4 > 0");
        changes(apart, "plan() = -2", "trouble(): 4 > 0");
        changes(apart, "ways() = 0", "trouble(): 4 > 0");
        changes(Play.rows(BUSY, new String[] {"scheme() = 2", "move(0, 0) = none"}),
                "tried(2, 1, 0, 1, 2, 3, 4) = -3", "trouble(): 4 > 0", "failed(): 1 > -1");
        String[] bush = Play.rows(new String[] {"yard(3, 7) = true", "scheme() = 0"},
                Play.with("call(0, 0, 1, 0, 1, 2, 3, 4) = ?", 1, 2, 3, 4, 5, 6, 7, 8),
                new String[] {"scheme() = 1", "single(1, 0, 1) = 1", "tried(1, 1, 0, 1, 2, 3, 4) = -2",
                    "move(0, 0) = none"});
        changes(bush, "tried(0, 7, 0, 1, 2, 3, 4) = -4", "trouble(): 4 > 0", "failed(): 0 > -1");
    }
}
