import java.io.IOException;
import java.lang.reflect.Constructor;
import java.lang.reflect.Field;
import java.lang.reflect.Method;
import java.lang.reflect.Modifier;
import java.nio.file.Path;
import java.util.Set;
import java.util.TreeSet;

/**
 * The document sentence by sentence, each with the tests that fail if it is broken. With the number
 * of a sentence as argument the tests of that one alone are run.
 */
public final class SentencesTest {
    private SentencesTest() {
    }

    public static void main(String[] args) throws IOException {
        Walk walk = new Walk(Path.of(System.getProperty("discyard.document", "../shared/DOC.md")),
                args.length > 0 ? Integer.parseInt(args[0]) : 0);
        whatItIs(walk);
        termsOfTheYard(walk);
        termsOfMoves(walk);
        termsOfSchemes(walk);
        headings(walk);
        theYard(walk);
        theStand(walk);
        moves(walk);
        rows(walk);
        reachedAndJoined(walk);
        renamedAndTurned(walk);
        schemes(walk);
        tried(walk);
        whatIsTold(walk);
        notPromised(walk);
        walk.end();
        Check.end();
    }

    private static void whatItIs(Walk walk) {
        walk.passes("# DiscYard ## What it is");
        walk.says("A yard where discs are moved one at a time", MoveBounds::promise12OthersAreAPackAlone);
        walk.says("between pegs joined by one-way lanes,", YardBounds::promise04OneWayAlone, MoveBounds::promise11NoLane);
        walk.says("never a greater one onto a lesser:", TermCases::lesserOnesOntoGreaterOnesAlone);
        walk.says("kinds of discs, lanes with costs, why a move can't be;", YardBounds::promise03FirstAndLastKind,
                YardBounds::promise04LeastAndGreatestCost, MoveBounds::promise11FirstOfSeveral);
        walk.says("the cheapest rows of moves from one stand to another, the first of them, how many there are;",
                RowBounds::promise16CheaperRowFoundLater, RowBounds::promise17FirstMoveFirst,
                RowBounds::promise19DearerRowsAreNotCounted);
        walk.says("where one can come, what is farthest, which stands lead to one another;",
                RowBounds::promise20ItselfAlone, RowBounds::promise22LeastOfThoseSoFar, RowBounds::promise23LaneOneWay);
        walk.says("pegs renamed, lanes turned about;", RowBounds::promise24LanesStandAndGoalWithIt,
                RowBounds::promise25AllTheOtherWay);
        walk.says("schemes that tell for any height how a pile is moved by lesser ones, counted and tried;",
                SchemeBounds::promise29LeastAndGreatestHeight, SchemeBounds::promise30LeastAndGreatestHeight);
        walk.says("moves undone and done again.", MoveBounds::promise13EachIsUndoneOnce,
                MoveBounds::promise14LatestUndoneFirst);
        walk.says("An object is used for at most 512 calls after it has been made; what later calls answer is free.",
                TermCases::all512Calls);
        walk.passes("## The public face");
        walk.saysBetween("```java", "```", SentencesTest::faceIs);
    }

    /** The constant, the constructor and the methods, and no other public member. */
    private static void faceIs(String told) {
        String head = "public final class DiscYard {";
        Check.due("head", told.strip().startsWith(head), true);
        Set<String> want = new TreeSet<>();
        for (String member : told.replace(head, "").replace("}", "").split(";")) {
            want.add(member.strip().replaceAll("(int|boolean|long) \\w+(?=[,)])", "$1"));
        }
        want.remove("");
        Set<String> got = new TreeSet<>();
        for (Field field : DiscYard.class.getFields()) {
            got.add(Modifier.toString(field.getModifiers()) + " " + field.getType() + " " + field.getName() + " = "
                    + valueOf(field));
        }
        for (Constructor<?> constructor : DiscYard.class.getConstructors()) {
            got.add("public DiscYard(" + types(constructor.getParameterTypes()) + ")");
        }
        for (Method method : DiscYard.class.getMethods()) {
            if (method.getDeclaringClass() == DiscYard.class) {
                got.add(Modifier.toString(method.getModifiers()) + " " + method.getReturnType() + " "
                        + method.getName() + "(" + types(method.getParameterTypes()) + ")");
            }
        }
        Check.same("the public face", got.toString(), want.toString());
    }

    /** Asked for as the tests run: where DiscYard.NONE stands the compiler writes what it was. */
    private static Object valueOf(Field field) {
        try {
            return field.get(null);
        } catch (IllegalAccessException fault) {
            throw new IllegalStateException(fault);
        }
    }

    private static String types(Class<?>[] types) {
        StringBuilder text = new StringBuilder();
        for (Class<?> type : types) {
            text.append(text.isEmpty() ? "" : ", ").append(type);
        }
        return text.toString();
    }

    private static void termsOfTheYard(Walk walk) {
        walk.passes("## Terms I. BOUNDS.");
        walk.says("PEGS 2 .. 5, DISCS 1 .. 7;", YardBounds::promise02FewestAndMostPegsAndDiscs,
                YardBounds::promise02OtherNumbersAreRefused);
        walk.says("STANDS (PEGS to the DISCS) are at most 20,000 where one is asked of all;",
                YardBounds::promise07FirstAndLastNumber, RowBounds::promise16MostStandsThatAreTaken,
                RowBounds::promise20AllStands, RowBounds::promise23AllLanes, SentencesTest::tooManyStands);
        walk.says("SCHEMES 8 of 8 STEPS;", SchemeBounds::promise26TheNinthIsRefused,
                SchemeBounds::promise27TheNinthStepIsRefused, SchemeBounds::promise28TheNinthStepIsRefused);
        walk.says("200 moves can be undone.", MoveBounds::promise13The199thMove, MoveBounds::promise13The200thMove,
                MoveBounds::promise13The201stMove);
        walk.says("II. DISCS are numbered from the least, 0, to the greatest.",
                TermCases::lesserOnesOntoGreaterOnesAlone);
        walk.says("A STAND tells the PEG of each;", YardBounds::promise08SumOfPegsTimesPowers,
                TermCases::numberInEachYard);
        walk.says("on a PEG they lie with the greatest below;", YardBounds::promise10LowestAndTopOne);
        walk.says("so the top one of a PEG is its least.", TermCases::theTopOneIsTheLeast);
        walk.says("NUMBER of a STAND: the sum of PEG of disc k times PEGS to the k.", TermCases::numberInEachYard);
        walk.passes("```text KINDS:");
        walk.says("0 PLAIN.", TermCases::plainOnesGoAlongAllLanesOntoAllButRinged);
        walk.says("1 HEAVY: goes along STRONG LANES alone.", MoveBounds::promise11WeakLane);
        walk.says("2 RINGED: is HEAVY,", MoveBounds::promise11WeakLane);
        walk.says("and nothing but RINGED ones lies right on it.", MoveBounds::promise11OntoRinged,
                YardBounds::promise03EachOtherKindOnRinged);
        walk.says("3 STICKY: is PLAIN,", TermCases::stickyOnesAreNotHeavy, MoveBounds::promise11OntoRinged);
        walk.says("but with a STICKY one of the number one more right below it both go as one, and so on down",
                MoveBounds::promise12HowManyWent, MoveBounds::promise12PackEndsAtAnotherKind,
                MoveBounds::promise12PackEndsAtAGap);
        walk.says("(a PACK: the top disc, and those).", TermCases::packsBeginAtTheTop);
        walk.says("Others are a PACK alone.", MoveBounds::promise12OthersAreAPackAlone);
        walk.says("A STAND is RIGHT if on no RINGED disc there lies right one of another kind.",
                YardBounds::promise07NotRightIsRefused, YardBounds::promise07AllOthersAreRight,
                YardBounds::promise03RightOnIsWithoutOneBetween);
        walk.says("A LANE leads from one PEG to another one,", YardBounds::promise04FromAPegToItselfIsRefused,
                YardBounds::promise04OneWayAlone);
        walk.says("at a COST 1 .. 100,", YardBounds::promise04LeastAndGreatestCost,
                YardBounds::promise04OtherNumbersAreRefused);
        walk.says("STRONG or not.", YardBounds::promise04StrongOrNot);
        walk.passes("```");
    }

    private static void termsOfMoves(Walk walk) {
        walk.says("III. A MOVE from a to b takes the PACK of a's top disc.", TermCases::theTopOneIsTheLeast,
                MoveBounds::promise12HowManyWent);
        walk.says("WHY it can't be, the first of:", MoveBounds::promise11FirstOfSeveral);
        walk.says("1 no such LANE;", MoveBounds::promise11NoLane);
        walk.says("2 no disc on a;", MoveBounds::promise11NoDisc);
        walk.says("3 a HEAVY or RINGED one in the PACK, and the LANE isn't STRONG;", MoveBounds::promise11WeakLane);
        walk.says("4 b's top disc is less than the greatest of the PACK;", MoveBounds::promise11LesserOne,
                TermCases::lesserOnesOntoGreaterOnesAlone);
        walk.says("5 b's top disc is RINGED, and the greatest of the PACK isn't.", MoveBounds::promise11OntoRinged,
                MoveBounds::promise11OntoNothing, MoveBounds::promise11PacksOntoRinged);
        walk.says("MOVES are in order of a, then of b.", RowBounds::promise17OrderOfAAheadOfB,
                RowBounds::promise17FirstMoveFirst);
        walk.says("IV. Rows of moves are gone through from stand to stand;",
                TermCases::rowsAreGoneThroughFromStandToStand);
        walk.says("the COST of a row is the sum of its LANES'.", TermCases::aRowCostsTheSumOfItsLanes);
        walk.says("FEWEST from one STAND to another one: the least COST of a row that leads there;",
                RowBounds::promise16CheaperRowFoundLater, RowBounds::promise16CheaperRowToOneOfSeveral);
        walk.says("0 (no move) from a STAND to itself.", RowBounds::promise16ZeroToItself,
                RowBounds::promise17NoMovesToItself);
        walk.says("The first row: of those of that COST, the one whose first move is the first in order,",
                RowBounds::promise17FirstMoveFirst);
        walk.says("then whose second one is ..", RowBounds::promise17ThenTheSecondMove);
        walk.says("WAYS: how many there are of that COST", RowBounds::promise19DearerRowsAreNotCounted);
        walk.says("(a long that wraps).", RowBounds::promise19Wraps, RowBounds::promise19WrapsBeyondTwoToThe64);
    }

    private static void termsOfSchemes(Walk walk) {
        walk.says("V. A SCHEME tells how a pile of a HEIGHT (discs 0 .. HEIGHT - 1) goes from PEG role 0 to role 1,",
                SchemeBounds::promise30LeastAndGreatestHeight, SchemeBounds::promise30EndsElsewhere);
        walk.says("by other roles 2 .. 4.", TermCases::byTheOtherRoles);
        walk.says("STEPS in order:", TermCases::stepsInOrder);
        walk.says("a SINGLE one: disc HEIGHT - 1 goes from one role to another;",
                TermCases::aSingleStepMovesTheGreatestOfTheHeight);
        walk.says("a CALL: of a SCHEME at a HEIGHT less by 1 .. 4,", SchemeBounds::promise28LeastAndMostLess,
                SchemeBounds::promise29HeightsBelow0);
        walk.says("with its roles 0 .. 4 being told roles of this one.", TermCases::aCallTellsRoles);
        walk.says("At HEIGHT 0 and below there are no moves.", SchemeBounds::promise29HeightsBelow0,
                SchemeBounds::promise30CallsAt0AndBelowAreNotCounted);
        walk.says("MOVES of a SCHEME at a HEIGHT: SINGLE 1,", SchemeBounds::promise27HowManyItHas);
        walk.says("CALL those of that SCHEME there.", SchemeBounds::promise28LeastAndMostLess,
                SchemeBounds::promise29LeastAndGreatestHeight);
        walk.says("```text TRIED with PEGS as roles 0 .. (those there are):", SchemeBounds::promise30RoleThatIsNoPeg,
                SchemeBounds::promise30RoleThatIsNoPegThoughAPegIsToldForIt);
        walk.says("discs 0 .. HEIGHT - 1 on role 0's PEG,", TermCases::byTheOtherRoles,
                SchemeBounds::promise30RolesBeyondThePegsAreNoMatter);
        walk.says("the others on role 0's PEG, too (below);", SchemeBounds::promise30OthersLieBelow);
        walk.says("each move must be of the disc that is told,", SchemeBounds::promise30AnotherDiscOnTop);
        walk.says("alone,", SchemeBounds::promise30APackOfMore);
        walk.says("from the PEG told,", SchemeBounds::promise31FromZeroOn);
        walk.says("by III.", SchemeBounds::promise30EachWhy);
        walk.passes("```");
        walk.says("The constants: `NONE = -1`: There is none; refused.", TermCases::noneIsLessByOneThan0);
    }

    private static void headings(Walk walk) {
        walk.passes("Ahead of the calls `yard`, `kind`, `lane`, `lanes`, `cost`, `stand`, `number`, `peg`, `disc` the"
                + " interface says: ---- the yard.");
        walk.passes("Ahead of the calls `why`, `move`, `undo`, `redo`, `moves` the interface says: ---- moves.");
        walk.says("Ahead of the calls `fewest`, `plan`, `planned`, `ways`, `reach`, `far`, `farthest`, `joined`, `rename`,"
                + " `about` the interface says: ---- all rows of moves (NONE, 2 if there are more than 20,000 STANDS).",
                SentencesTest::tooManyStands);
        walk.passes("Ahead of the calls `scheme`, `single`, `call`, `count`, `tried`, `failed`, `trouble`, `size` the"
                + " interface says: ---- schemes.");
    }

    private static void tooManyStands() {
        RowBounds.promise16TooManyStands();
        RowBounds.promise17TooManyStands();
        RowBounds.promise18BeyondTooManyStands();
        RowBounds.promise19TooManyStands();
        RowBounds.promise20TooManyStands();
        RowBounds.promise21TooManyStands();
        RowBounds.promise22TooManyStands();
        RowBounds.promise23TooManyStandsAheadOfOtherNumbers();
        RowBounds.promise24AllFivePegs();
        RowBounds.promise25StandAndGoalExchanged();
    }

    private static void theYard(Walk walk) {
        walk.passes("## Promise 1: A new object `DiscYard()`:");
        walk.says("Three PEGS,", YardBounds::promise01ThreePegs);
        walk.says("one PLAIN disc on PEG 0,", YardBounds::promise01OnePlainDiscOnPeg0);
        walk.says("no LANES,", YardBounds::promise01NoLanes);
        walk.says("no SCHEMES;", YardBounds::promise01NoSchemes);
        walk.says("the GOAL is the STAND.", YardBounds::promise01GoalIsTheStand);
        walk.passes("## Promise 2: yard `boolean yard(int pegs, int discs)`:");
        walk.says("So many PEGS and DISCS,", YardBounds::promise02FewestAndMostPegsAndDiscs);
        walk.says("all PLAIN on PEG 0,", YardBounds::promise02AllArePlainOnPeg0, YardBounds::promise02KindsDoNotComeBack);
        walk.says("no LANES;", YardBounds::promise02NoLanes, YardBounds::promise02LanesDoNotComeBack);
        walk.says("the GOAL is the STAND;", YardBounds::promise02GoalIsTheStand);
        walk.says("nothing can be undone:", YardBounds::promise02NothingCanBeUndone);
        walk.says("true; false (1) for other numbers.", YardBounds::promise02FewestAndMostPegsAndDiscs,
                YardBounds::promise02OtherNumbersAreRefused);
        walk.says("(SCHEMES stay.)", YardBounds::promise02SchemesStay);
        walk.passes("## Promise 3: kind `boolean kind(int disc, int kind)`:");
        walk.says("A DISC's KIND becomes it;", YardBounds::promise03FirstAndLastDisc,
                YardBounds::promise03FirstAndLastKind);
        walk.says("nothing can be undone:", YardBounds::promise03NothingCanBeUndone);
        walk.says("true; false: 1;", YardBounds::promise03OtherNumbersAreRefused);
        walk.says("3 if the STAND", YardBounds::promise03StandWouldNotBeRight,
                YardBounds::promise03UpperOneMustStayRinged);
        walk.says("or the GOAL wouldn't be RIGHT.", YardBounds::promise03GoalWouldNotBeRight);
        walk.passes("## Promise 4: lane `boolean lane(int a, int b, int cost, boolean strong)`:");
        walk.says("The LANE from a to b has a COST", YardBounds::promise04LeastAndGreatestCost,
                YardBounds::promise04LastPeg);
        walk.says("(0: there is none),", YardBounds::promise04Cost0IsNoLane);
        walk.says("STRONG or not;", YardBounds::promise04StrongOrNot);
        walk.says("nothing can be undone:", YardBounds::promise04NothingCanBeUndone);
        walk.says("true; false (1;", YardBounds::promise04OtherNumbersAreRefused);
        walk.says("a is b, too).", YardBounds::promise04FromAPegToItselfIsRefused);
        walk.passes("## Promise 5: lanes `int lanes()`:");
        walk.says("All LANES, each way, at COST 1,", YardBounds::promise05EachWayAtCost1);
        walk.says("STRONG;", YardBounds::promise05Strong);
        walk.says("nothing can be undone:", YardBounds::promise05NothingCanBeUndone);
        walk.says("how many.", YardBounds::promise05HowMany);
        walk.passes("## Promise 6: cost `int cost(int a, int b)`:");
        walk.says("COST of the LANE from a to b;", YardBounds::promise04LeastAndGreatestCost);
        walk.says("0 without one;", YardBounds::promise06ZeroWithoutALane);
        walk.says("NONE for other PEGS.", YardBounds::promise06NoneForOtherPegs);
    }

    private static void theStand(Walk walk) {
        walk.passes("## Promise 7: stand `boolean stand(int number, boolean goal)`:");
        walk.says("The STAND (or the GOAL) becomes the one of a NUMBER", YardBounds::promise07FirstAndLastNumber);
        walk.says("(of a new STAND nothing can be undone):", YardBounds::promise07NewStandForgetsMoves,
                YardBounds::promise07NewGoalForgetsNone);
        walk.says("true; false: 1;", YardBounds::promise07OtherNumbersAreRefused);
        walk.says("3 if it isn't RIGHT.", YardBounds::promise07NotRightIsRefused);
        walk.passes("## Promise 8: number `int number(boolean goal)`:");
        walk.says("NUMBER of the STAND, or of the GOAL.", YardBounds::promise08LeastAndGreatest);
        walk.passes("## Promise 9: peg `int peg(int disc)`:");
        walk.says("The PEG of a DISC in the STAND;", YardBounds::promise09InTheStandNotInTheGoal);
        walk.says("NONE.", YardBounds::promise09NoneForOtherDiscs);
        walk.passes("## Promise 10: disc `int disc(int peg, int k)`:");
        walk.says("The k-th disc of a PEG, from below;", YardBounds::promise10LowestAndTopOne);
        walk.says("NONE.", YardBounds::promise10EmptyPeg, YardBounds::promise10NoneForOtherPegs);
    }

    private static void moves(Walk walk) {
        walk.passes("## Promise 11: why `int why(int a, int b)`:");
        walk.says("WHY a MOVE can't be:", MoveBounds::promise11NoLane, MoveBounds::promise11NoDisc,
                MoveBounds::promise11WeakLane, MoveBounds::promise11LesserOne, MoveBounds::promise11OntoRinged);
        walk.says("0 it can;", MoveBounds::promise11OntoNothing);
        walk.says("NONE for other PEGS.", MoveBounds::promise11NoneForOtherPegs);
        walk.passes("## Promise 12: move `int move(int a, int b)`:");
        walk.says("A MOVE is done:", MoveBounds::promise12GoalStays);
        walk.says("how many discs went;", MoveBounds::promise12HowManyWent);
        walk.says("NONE: 1 for other PEGS,", MoveBounds::promise12OtherPegsAreRefused);
        walk.says("else 4 (WHY).", MoveBounds::promise12EachWhyIsRefused, MoveBounds::promise12OtherPegsAheadOfWhy);
        walk.passes("## Promise 13: undo `int undo()`:");
        walk.says("The latest MOVE that was done", MoveBounds::promise13AgainstTheLanes,
                MoveBounds::promise13PackGoesBackAsItCame, MoveBounds::promise13RefusedMovesCannotBeUndone);
        walk.says("(and isn't undone;", MoveBounds::promise13EachIsUndoneOnce);
        walk.says("of 200)", MoveBounds::promise13The200thMove, MoveBounds::promise13The201stMove,
                MoveBounds::promise13The260thMove, MoveBounds::promise13The200thBehindAnUndo);
        walk.says("is undone: 1; 0 if there is none.", MoveBounds::promise13NothingToUndo);
        walk.passes("## Promise 14: redo `int redo()`:");
        walk.says("The latest MOVE that was undone is done again: 1;", MoveBounds::promise14LatestUndoneFirst,
                MoveBounds::promise14All200, MoveBounds::promise14UpTo200AndNoMore);
        walk.says("0 if there is none", MoveBounds::promise14NothingToDoAgain);
        walk.says("(none behind a move()).", MoveBounds::promise14NoneBehindAMove,
                MoveBounds::promise14StillThereBehindARefusedMove);
        walk.passes("## Promise 15: moves `int moves()`:");
        walk.says("How many MOVES can be done now.", MoveBounds::promise15None, MoveBounds::promise15MostOfAll,
                MoveBounds::promise15EachReasonTakesOne, MoveBounds::promise15PacksAreOneMove);
    }

    private static void rows(Walk walk) {
        walk.passes("## Promise 16: fewest `int fewest()`:");
        walk.says("FEWEST from the STAND to the GOAL;", RowBounds::promise16LeastAndGreatestCost,
                TermCases::aRowCostsTheSumOfItsLanes);
        walk.says("-2 if no row leads there.", RowBounds::promise16NoRowLeadsThere);
        walk.passes("## Promise 17: plan `int plan()`:");
        walk.says("The first row is THE PLAN:", RowBounds::promise17FirstMoveFirst,
                RowBounds::promise17ThenTheSecondMove, RowBounds::promise17ShorterBehindLonger);
        walk.says("how many MOVES;", RowBounds::promise17LongestRow);
        walk.says("-2 if no row leads there", RowBounds::promise17NoPlanIfNoRowLeadsThere);
        walk.says("(THE PLAN stays).", RowBounds::promise17StaysIfNoRowLeadsThere);
        walk.passes("## Promise 18: planned `int planned(int k)`:");
        walk.says("MOVE k of THE PLAN, 10 a + b;", RowBounds::promise18TenAPlusB, RowBounds::promise18FirstAndLastMove);
        walk.says("NONE.", RowBounds::promise18NoPlanYet, RowBounds::promise18FirstAndLastMove);
        walk.passes("## Promise 19: ways `long ways()`:");
        walk.says("WAYS from the STAND to the GOAL;", RowBounds::promise19DearerRowsAreNotCounted,
                RowBounds::promise19OneToItself);
        walk.says("0 if no row leads there;", RowBounds::promise19NoneIfNoRowLeadsThere,
                RowBounds::promise19NoneBehindSome);
        walk.says("NONE: 2.", RowBounds::promise19TooManyStands);
    }

    private static void reachedAndJoined(Walk walk) {
        walk.passes("## Promise 20: reach `int reach()`:");
        walk.says("To how many STANDS rows lead from the STAND", RowBounds::promise20AllStands,
                RowBounds::promise20RightOnesAlone, RowBounds::promise20AnewBehindEachChange);
        walk.says("(itself, too).", RowBounds::promise20ItselfAlone);
        walk.passes("## Promise 21: far `int far()`:");
        walk.says("The greatest FEWEST from the STAND to one of these.", RowBounds::promise21GreatestOfTheLeast,
                RowBounds::promise21ZeroIfItselfAlone);
        walk.passes("## Promise 22: farthest `int farthest()`:");
        walk.says("The least NUMBER of a STAND that is so far.", RowBounds::promise22LeastOfThoseSoFar,
                RowBounds::promise22ItselfIfAlone, RowBounds::promise22FirstAndLastNumber);
        walk.passes("## Promise 23: joined `int joined(int what)`:");
        walk.says("Of the greatest sets of RIGHT STANDS within which each leads to each,",
                RowBounds::promise23RightOnesAlone, RowBounds::promise23LaneOneWay,
                RowBounds::promise23EachNextToOneOrTwo, RowBounds::promise23AnewBehindEachChange);
        walk.says("what 0: how many there are,", RowBounds::promise23NoLanes);
        walk.says("1: how many STANDS that of the STAND has,", RowBounds::promise23OfTheStandNotOfTheGreatest);
        walk.says("2: how many sets no row leads out of,", RowBounds::promise23LaneOneWay);
        walk.says("3: how many STANDS the greatest has.", RowBounds::promise23OfTheStandNotOfTheGreatest);
        walk.says("NONE: 2;", RowBounds::promise23TooManyStandsAheadOfOtherNumbers);
        walk.says("1 (what).", RowBounds::promise23OtherNumbersAreRefused);
    }

    private static void renamedAndTurned(Walk walk) {
        walk.passes("## Promise 24: rename `boolean rename(int a, int b, int c, int d, int e)`:");
        walk.says("PEG k is named as told from now on", RowBounds::promise24LanesStandAndGoalWithIt,
                RowBounds::promise24ToTheSameNames, RowBounds::promise24RightBehindIt,
                RowBounds::promise24RowsAnewThoughTheStandIsAsItWas);
        walk.says("(5 of them, those there are a rearrangement of 0 .. PEGS - 1):",
                RowBounds::promise24ThoseBeyondThePegsAreNoMatter, RowBounds::promise24AllFivePegs);
        walk.says("LANES, STAND and GOAL with it;", RowBounds::promise24LanesStandAndGoalWithIt);
        walk.says("nothing can be undone:", RowBounds::promise24NothingCanBeUndone);
        walk.says("true; false (1).", RowBounds::promise24OtherNumbersAreRefused, RowBounds::promise24OneTwiceIsRefused);
        walk.passes("## Promise 25: about `int about()`:");
        walk.says("All LANES lead the other way,", RowBounds::promise25AllTheOtherWay, RowBounds::promise25StrongWithIt,
                RowBounds::promise25RowsAnewThoughTheStandIsAsItWas);
        walk.says("STAND and GOAL are exchanged;", RowBounds::promise25StandAndGoalExchanged);
        walk.says("nothing can be undone:", RowBounds::promise25NothingCanBeUndone);
        walk.says("how many LANES.", RowBounds::promise25HowMany, RowBounds::promise25NoLanes);
    }

    private static void schemes(Walk walk) {
        walk.passes("## Promise 26: scheme `int scheme()`:");
        walk.says("A new SCHEME without STEPS:", SchemeBounds::promise26WithoutSteps);
        walk.says("its number;", SchemeBounds::promise26FirstAndLast);
        walk.says("NONE (5) if there are 8.", SchemeBounds::promise26TheNinthIsRefused);
        walk.passes("## Promise 27: single `int single(int scheme, int from, int to)`:");
        walk.says("A SINGLE STEP comes behind a SCHEME's:", TermCases::stepsInOrder);
        walk.says("how many it has;", SchemeBounds::promise27HowManyItHas, SchemeBounds::promise27FirstAndLastRole);
        walk.says("NONE: 1 (SCHEME;", SchemeBounds::promise27NoSuchScheme);
        walk.says("roles 0 .. 4,", SchemeBounds::promise27OtherRolesAreRefused, SchemeBounds::promise27FirstAndLastRole);
        walk.says("unlike);", SchemeBounds::promise27RolesThatAreAlikeAreRefused);
        walk.says("5.", SchemeBounds::promise27TheNinthStepIsRefused,
                SchemeBounds::promise27TheNinthStepTouchesNoOtherScheme,
                SchemeBounds::promise27OtherNumbersAheadOfTheNinth);
        walk.passes("## Promise 28: call `int call(int scheme, int of, int less, int a, int b, int c, int d, int e)`:");
        walk.says("A CALL likewise;", SchemeBounds::promise28HowManyItHas, TermCases::aCallTellsRoles);
        walk.says("NONE: 1 (SCHEMES,", SchemeBounds::promise28NoSuchScheme);
        walk.says("less 1 .. 4,", SchemeBounds::promise28LeastAndMostLess);
        walk.says("roles 0 .. 4,", SchemeBounds::promise28OtherRolesAreRefused);
        walk.says("all unlike);", SchemeBounds::promise28RolesThatAreAlikeAreRefused,
                SchemeBounds::promise28AllFiveRolesCountInAYardOfTwoPegs);
        walk.says("5.", SchemeBounds::promise28TheNinthStepIsRefused, SchemeBounds::promise28OtherNumbersAheadOfTheNinth);
        walk.passes("## Promise 29: count `long count(int scheme, int height)`:");
        walk.says("MOVES of a SCHEME at a HEIGHT (0 .. 60),", SchemeBounds::promise29LeastAndGreatestHeight,
                SchemeBounds::promise29WithoutSteps, SchemeBounds::promise29WhateverTheYard);
        walk.says("at most 1,000,000,000,000,000,000 (that if there are more);", SchemeBounds::promise29GreatestCount);
        walk.says("NONE (1).", SchemeBounds::promise29OtherNumbersAreRefused);
    }

    private static void tried(Walk walk) {
        walk.passes("## Promise 30: tried `int tried(int scheme, int height, int a, int b, int c, int d, int e)`:");
        walk.says("A SCHEME is TRIED at a HEIGHT (1 .. DISCS)", SchemeBounds::promise30LeastAndGreatestHeight);
        walk.says("with PEGS a .. e as roles", TermCases::byTheOtherRoles);
        walk.says("(those of roles beyond the PEGS there are no matter;",
                SchemeBounds::promise30RolesBeyondThePegsAreNoMatter);
        walk.says("roles 0 .. PEGS - 1 a rearrangement):", SchemeBounds::promise30OtherPegsAreRefused);
        walk.says("its MOVES, if all can be done and the pile ends on role 1's PEG;",
                SchemeBounds::promise30LeastAndGreatestHeight, SchemeBounds::promise30BeyondTooManyStands);
        walk.says("-2 if a MOVE can't be", SchemeBounds::promise30EachWhy);
        walk.says("(a role that is no PEG,", SchemeBounds::promise30RoleThatIsNoPeg,
                SchemeBounds::promise30RoleThatIsNoPegByACall);
        walk.says("another disc on top,", SchemeBounds::promise30AnotherDiscOnTop);
        walk.says("a PACK of more,", SchemeBounds::promise30APackOfMore);
        walk.says("or WHY),", SchemeBounds::promise30EachWhy);
        walk.says("-3 if it ends elsewhere,", SchemeBounds::promise30EndsElsewhere);
        walk.says("-4 if MOVES and CALLS at HEIGHTS above 0", SchemeBounds::promise30CallsAt0AndBelowAreNotCounted,
                SchemeBounds::promise30The5000thIsTheLastMove, SchemeBounds::promise30The5001stWouldBeTheLastMove);
        walk.says("(its own beginning is one)", SchemeBounds::promise30The5000thCall,
                SchemeBounds::promise30The5001stCall);
        walk.says("would be more than 5,000", SchemeBounds::promise30The5000thCall,
                SchemeBounds::promise30The5001stCall, SchemeBounds::promise30EachTryCountsAnew);
        walk.says("(asked as each begins);", SchemeBounds::promise30The5000thCannotBe,
                SchemeBounds::promise30The5001stCannotBe, SchemeBounds::promise30CannotBeAheadOfTheBound);
        walk.says("NONE: 1.", SchemeBounds::promise30OtherNumbersAreRefused);
        walk.says("(The STAND stays.)", SchemeBounds::promise30StandStays);
        walk.passes("## Promise 31: failed `int failed()`:");
        walk.says("Which MOVE (from 0 on) of the latest tried() that told -2 it was;", SchemeBounds::promise31FromZeroOn,
                SchemeBounds::promise31BehindAllMovesOfATower, SchemeBounds::promise31StaysBehindOtherCalls);
        walk.says("NONE behind others.", SchemeBounds::promise31NoneAheadOfATry,
                SchemeBounds::promise31NoneBehindATryThatEndsWell, SchemeBounds::promise31NoneBehindATryThatEndsElsewhere,
                SchemeBounds::promise31NoneBehindATryThatIsTooLong, SchemeBounds::promise31NoneBehindARefusedTry);
    }

    private static void whatIsTold(Walk walk) {
        walk.passes("## Promise 32: trouble `int trouble()`:");
        walk.says("TROUBLE of the latest call that may be refused:", SchemeBounds::promise32StaysBehindCallsThatTellNone,
                SchemeBounds::promise32NoneAtFirst);
        walk.says("0 it wasn't,", SchemeBounds::promise32ZeroBehindEachThatWasNotRefused,
                SchemeBounds::promise32ZeroBehindAnswersThatAreNoRefusal);
        walk.says("else the number told there.", SchemeBounds::promise32EachNumber);
        walk.passes("## Promise 33: size `int size(int what)`:");
        walk.says("0 PEGS, 1 DISCS, 2 LANES, 3 SCHEMES,", SchemeBounds::promise33OfEach, SchemeBounds::promise33Full,
                SchemeBounds::promise33Empty);
        walk.says("4 moves that can be undone, 5 done again,", SchemeBounds::promise33MovesUndoneAndDoneAgain);
        walk.says("6 MOVES of THE PLAN,", RowBounds::promise17LongestRow, RowBounds::promise17ShorterBehindLonger);
        walk.says("7 the KINDS (KIND of disc k times 4 to the k, together);", SchemeBounds::promise33KindOfEachDisc,
                SchemeBounds::promise33Full);
        walk.says("NONE for others.", SchemeBounds::promise33NoneForOthers);
    }

    private static void notPromised(Walk walk) {
        walk.passes("## Not promised");
        walk.passes("How the state is held inside the object is free, as are the speed of each call, the text of toString"
                + " and the behaviour of equals and hashCode.");
        walk.passes("Use of one object from several threads at once is not promised to be safe.");
        walk.passes("Nothing is promised beyond the answers and state changes described above, and nothing about an object"
                + " after its 512th call.");
    }
}
