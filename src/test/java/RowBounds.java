/** The boundary cases of the promises 16 to 25: all rows of moves. */
final class RowBounds {
    /** 78,125 STANDS, with a PLAN of an earlier yard, moves that can be undone and one that can be done again. */
    private static final String[] TOO_MANY = {"lanes() = 6", "stand(2, true) = true", "plan() = 1", "scheme() = 0",
        "single(0, 0, 4) = 1", "yard(5, 7) = true", "lanes() = 20", "lane(0, 3, 9, false) = true",
        "stand(78124, true) = true", "tried(0, 2, 0, 1, 2, 3, 4) = -2", "move(0, 4) = 1", "move(0, 2) = 1",
        "move(4, 3) = 1", "undo() = 1"};
    /** Discs 0 and 1 on two PEGS, all LANES, GOAL the STAND, disc 1 RINGED: six of nine STANDS are RIGHT. */
    private static final String[] SIX_RIGHT = {"yard(3, 2) = true", "stand(1, false) = true", "stand(1, true) = true",
        "kind(1, 2) = true", "lanes() = 6"};
    private static final String[] PLACES = {"rename(?, 1, 2, 3, 4)", "rename(0, ?, 2, 3, 4)", "rename(0, 1, ?, 3, 4)",
        "rename(0, 1, 2, ?, 4)", "rename(0, 1, 2, 3, ?)"};

    private RowBounds() {
    }

    private static String[] line(int pegs, int discs, int cost) {
        String[] rows = new String[2 * pegs - 1];
        rows[0] = "yard(" + pegs + ", " + discs + ") = true";
        for (int a = 0; a + 1 < pegs; a++) {
            rows[2 * a + 1] = "lane(" + a + ", " + (a + 1) + ", " + cost + ", true) = true";
            rows[2 * a + 2] = "lane(" + (a + 1) + ", " + a + ", " + cost + ", true) = true";
        }
        return rows;
    }

    // ---- promise 16, fewest

    static void promise16ZeroToItself() {
        new Play().taken("fewest() = 0").say("lanes() = 6").taken("fewest() = 0").say("move(0, 2) = 1")
                .taken("fewest() = 1").say("stand(2, true) = true").taken("fewest() = 0");
    }

    static void promise16NoRowLeadsThere() {
        new Play("stand(1, true) = true").taken("fewest() = -2").say("lane(1, 0, 1, true) = true").taken("fewest() = -2")
                .say("lane(0, 2, 1, true) = true").taken("fewest() = -2").say("lane(2, 1, 1, true) = true")
                .taken("fewest() = 2");
        new Play("yard(2, 2) = true", "lanes() = 2", "stand(3, true) = true").taken("fewest() = -2");
    }

    static void promise16LeastAndGreatestCost() {
        new Play("lane(0, 1, 1, false) = true", "stand(1, true) = true").taken("fewest() = 1")
                .say("lane(0, 1, 100, false) = true").taken("fewest() = 100");
        new Play(line(3, 7, 100)).say("stand(2186, true) = true").taken("fewest() = 218600", "plan() = 2186");
    }

    static void promise16CheaperRowFoundLater() {
        // PEG 1 is seen at 100, then at 50, then at 3; PEG 4 can't be come to.
        new Play("yard(5, 1) = true", "lane(0, 1, 100, true) = true", "lane(0, 2, 1, true) = true",
                "lane(2, 1, 49, true) = true", "lane(2, 3, 1, true) = true", "lane(3, 1, 1, true) = true",
                "stand(1, true) = true").taken("fewest() = 3", "plan() = 3", "ways() = 1", "reach() = 4", "far() = 3",
                "farthest() = 1").say("stand(4, true) = true").taken("fewest() = -2");
    }

    static void promise16CheaperRowToOneOfSeveral() {
        // Three PEGS are seen at 50; then one of them is seen at 2.
        for (int cheaper = 1; cheaper <= 3; cheaper++) {
            new Play("yard(5, 1) = true").say(Play.with("lane(0, ?, 50, true) = true", 1, 2, 3)).say(
                    "lane(0, 4, 1, true) = true", "lane(4, " + cheaper + ", 1, true) = true",
                    "stand(" + cheaper + ", true) = true").taken("fewest() = 2", "reach() = 5", "far() = 50",
                    "farthest() = " + (cheaper == 1 ? 2 : 1));
        }
    }

    static void promise16MostStandsThatAreTaken() {
        new Play("yard(4, 7) = true", "lanes() = 12", "stand(16383, true) = true").taken("fewest() = 25");
        new Play("yard(5, 6) = true", "lanes() = 20", "stand(15624, true) = true").taken("fewest() = 15");
    }

    static void promise16TooManyStands() {
        Play.refusals(2, TOO_MANY, "fewest()");
        new Play(TOO_MANY).refused(2, "fewest()").say("stand(0, false) = true", "stand(0, true) = true")
                .refused(2, "fewest()");
    }

    // ---- promise 17, plan

    static void promise17NoMovesToItself() {
        new Play("lanes() = 6", "stand(1, true) = true", "plan() = 1", "size(6) = 1", "stand(0, true) = true")
                .taken("plan() = 0").say("size(6) = 0", "planned(0) = none");
    }

    static void promise17StaysIfNoRowLeadsThere() {
        new Play("lane(0, 1, 1, true) = true", "lane(1, 2, 1, true) = true", "stand(2, true) = true", "plan() = 2",
                "stand(1, false) = true", "stand(0, true) = true").taken("plan() = -2").say("size(6) = 2",
                "planned(0) = 1", "planned(1) = 12", "planned(2) = none");
    }

    static void promise17NoPlanIfNoRowLeadsThere() {
        new Play("stand(2, true) = true").taken("plan() = -2").say("size(6) = 0", "planned(0) = none");
    }

    static void promise17TooManyStands() {
        Play.refusals(2, TOO_MANY, "plan()");
        new Play(TOO_MANY).refused(2, "plan()").say("size(6) = 1", "planned(0) = 2", "planned(1) = none");
    }

    static void promise17LongestRow() {
        Play play = new Play(line(3, 7, 1)).say("stand(2186, true) = true").taken("plan() = 2186");
        play.say("size(6) = 2186", "planned(0) = 1", "planned(1) = 12", "planned(2) = 1", "planned(2184) = 1",
                "planned(2185) = 12", "planned(2186) = none");
    }

    static void promise17ShorterBehindLonger() {
        new Play("yard(3, 2) = true", "lanes() = 6", "stand(8, true) = true", "plan() = 3", "stand(1, true) = true",
                "plan() = 1", "size(6) = 1", "planned(0) = 1", "planned(1) = none");
    }

    static void promise17FirstMoveFirst() {
        // 0 to 1 to 3 and 0 to 2 to 3 are as dear; then the way by 1 is dearer.
        new Play("yard(4, 1) = true", "lane(0, 1, 2, true) = true", "lane(0, 2, 1, true) = true",
                "lane(1, 3, 1, true) = true", "lane(2, 3, 2, true) = true", "stand(3, true) = true").taken("plan() = 2")
                .say("planned(0) = 1", "planned(1) = 13", "lane(0, 1, 3, true) = true").taken("plan() = 2")
                .say("planned(0) = 2", "planned(1) = 23");
    }

    static void promise17ThenTheSecondMove() {
        new Play("yard(5, 1) = true", "lane(0, 1, 1, true) = true", "lane(1, 2, 5, true) = true",
                "lane(1, 3, 1, true) = true", "lane(2, 4, 1, true) = true", "lane(3, 4, 5, true) = true",
                "stand(4, true) = true").taken("plan() = 3").say("planned(0) = 1", "planned(1) = 12", "planned(2) = 24");
    }

    static void promise17OrderOfAAheadOfB() {
        // Two discs to two PEGS: 0 to 3 ahead of 1 to 2, though 2 is less than 3.
        new Play("yard(4, 2) = true", "stand(1, false) = true", "lane(0, 3, 1, true) = true", "lane(1, 2, 1, true) = true",
                "stand(14, true) = true").taken("plan() = 2", "ways() = 2").say("planned(0) = 3", "planned(1) = 12");
    }

    // ---- promise 18, planned

    static void promise18NoPlanYet() {
        new Play().say(Play.with("planned(?) = none", "least", -1, 0, 1, "most"));
    }

    static void promise18FirstAndLastMove() {
        new Play("yard(3, 3) = true", "lanes() = 6", "stand(13, true) = true", "plan() = 7", "planned(0) = 1",
                "planned(6) = 1", "planned(5) = 21").say(Play.with("planned(?) = none", "least", -1, 7, 8, "most"));
    }

    static void promise18TenAPlusB() {
        for (int a = 0; a < 5; a++) {
            for (int b = 0; b < 5; b++) {
                if (a != b) {
                    new Play("yard(5, 1) = true", "lanes() = 20", "stand(" + a + ", false) = true",
                            "stand(" + b + ", true) = true", "plan() = 1", "planned(0) = " + (10 * a + b));
                }
            }
        }
    }

    static void promise18BeyondTooManyStands() {
        new Play(TOO_MANY).untroubled("planned(0) = 2", "planned(1) = none");
    }

    // ---- promise 19, ways

    static void promise19OneToItself() {
        new Play().taken("ways() = 1").say("lanes() = 6").taken("ways() = 1");
    }

    static void promise19NoneIfNoRowLeadsThere() {
        new Play("stand(1, true) = true").taken("ways() = 0").say("lane(1, 0, 1, true) = true").taken("ways() = 0")
                .say("lane(0, 1, 1, true) = true").taken("ways() = 1");
    }

    static void promise19NoneBehindSome() {
        new Play("lanes() = 6", "stand(1, true) = true").taken("ways() = 1").say("lane(0, 1, 0, true) = true",
                "lane(0, 2, 0, true) = true").taken("ways() = 0", "fewest() = -2", "plan() = -2");
    }

    static void promise19DearerRowsAreNotCounted() {
        new Play("lane(0, 1, 3, true) = true", "lane(0, 2, 1, true) = true", "lane(2, 1, 1, true) = true",
                "stand(1, true) = true").taken("ways() = 1").say("lane(0, 1, 2, true) = true").taken("ways() = 2")
                .say("lane(0, 1, 1, true) = true").taken("ways() = 1");
    }

    static void promise19Wraps() {
        // Around at COST 1 and back at COST 2: a step back is as dear as two around. 2 to the 64 rows.
        new Play("yard(3, 7) = true", "lane(0, 1, 1, true) = true", "lane(1, 2, 1, true) = true",
                "lane(2, 0, 1, true) = true", "lane(1, 0, 2, true) = true", "lane(2, 1, 2, true) = true",
                "lane(0, 2, 2, true) = true", "stand(2186, true) = true").taken("ways() = 0", "fewest() = 212",
                "plan() = 170").say("planned(0) = 1", "move(0, 1) = 1").taken("ways() = -9223372036854775808")
                .say("move(1, 2) = 1", "move(0, 1) = 1", "move(2, 0) = 1").taken("ways() = 4611686018427387904");
    }

    static void promise19WrapsBeyondTwoToThe64() {
        // 70,742,542,946,735,751,168 rows.
        new Play("yard(4, 7) = true", "lane(0, 2, 2, true) = true", "lane(1, 2, 1, true) = true",
                "lane(1, 3, 3, true) = true", "lane(2, 1, 2, true) = true", "lane(3, 1, 3, true) = true",
                "lane(3, 2, 4, true) = true", "stand(5461, true) = true").taken("ways() = -3044433348102455296",
                "fewest() = 1036");
    }

    static void promise19TooManyStands() {
        Play.refusals(2, TOO_MANY, "ways()");
    }

    // ---- promise 20, reach

    static void promise20ItselfAlone() {
        new Play().taken("reach() = 1").say("lane(1, 2, 1, true) = true").taken("reach() = 1")
                .say("lane(0, 1, 1, true) = true").taken("reach() = 3");
    }

    static void promise20AllStands() {
        new Play("yard(2, 1) = true", "lanes() = 2").taken("reach() = 2");
        new Play("yard(4, 7) = true", "lanes() = 12").taken("reach() = 16384");
        new Play("yard(5, 6) = true", "lanes() = 20").taken("reach() = 15625");
    }

    static void promise20RightOnesAlone() {
        new Play(SIX_RIGHT).taken("reach() = 6");
    }

    static void promise20AnewBehindEachChange() {
        new Play("lanes() = 6").taken("reach() = 3").say("yard(3, 1) = true").taken("reach() = 1").say("lanes() = 6")
                .taken("reach() = 3").say("kind(0, 1) = true", "lane(0, 1, 1, false) = true").taken("reach() = 3")
                .say("lane(0, 2, 0, true) = true").taken("reach() = 1").say("kind(0, 0) = true").taken("reach() = 3")
                .say("lane(1, 0, 0, true) = true", "lane(2, 0, 0, true) = true", "move(0, 1) = 1").taken("reach() = 2")
                .say("undo() = 1").taken("reach() = 3").say("redo() = 1").taken("reach() = 2")
                .say("stand(0, false) = true").taken("reach() = 3").say("about() = 3").taken("reach() = 1")
                .say("rename(2, 1, 0, 3, 4) = true", "stand(1, false) = true").taken("reach() = 3")
                .say("kind(0, 2) = true").taken("reach() = 2");
    }

    static void promise20TooManyStands() {
        Play.refusals(2, TOO_MANY, "reach()");
    }

    // ---- promise 21, far

    static void promise21ZeroIfItselfAlone() {
        new Play().taken("far() = 0");
        new Play("stand(2, false) = true", "lane(0, 2, 100, true) = true").taken("far() = 0");
    }

    static void promise21GreatestOfTheLeast() {
        // The LANE of 100 is never a cheapest row: PEG 1 is 2 away, by PEG 2.
        new Play("lane(0, 1, 100, true) = true", "lane(0, 2, 1, true) = true", "lane(2, 1, 1, true) = true")
                .taken("far() = 2");
        new Play(line(3, 7, 100)).taken("far() = 218600");
        new Play(line(5, 1, 100)).taken("far() = 400");
    }

    static void promise21TooManyStands() {
        Play.refusals(2, TOO_MANY, "far()");
    }

    // ---- promise 22, farthest

    static void promise22ItselfIfAlone() {
        for (int number = 0; number < 3; number++) {
            new Play("stand(" + number + ", false) = true").taken("farthest() = " + number);
        }
    }

    static void promise22LeastOfThoseSoFar() {
        new Play("lane(0, 1, 9, true) = true", "lane(0, 2, 9, true) = true").taken("farthest() = 1")
                .say("lane(0, 2, 10, true) = true").taken("farthest() = 2").say("stand(1, false) = true")
                .taken("farthest() = 1");
        new Play("stand(1, false) = true", "lanes() = 6").taken("farthest() = 0").say("stand(0, false) = true")
                .taken("farthest() = 1");
    }

    static void promise22FirstAndLastNumber() {
        new Play(line(3, 7, 1)).taken("farthest() = 2186").say("stand(2186, false) = true").taken("farthest() = 0");
    }

    static void promise22TooManyStands() {
        Play.refusals(2, TOO_MANY, "farthest()");
    }

    // ---- promise 23, joined

    private static void joined(Play play, int sets, int own, int closed, int greatest) {
        play.taken("joined(0) = " + sets, "joined(1) = " + own, "joined(2) = " + closed, "joined(3) = " + greatest);
    }

    static void promise23OtherNumbersAreRefused() {
        Play.refusals(1, Play.BUSY, Play.with("joined(?)", "least", -1, 4, 5, "most"));
    }

    static void promise23TooManyStandsAheadOfOtherNumbers() {
        Play.refusals(2, TOO_MANY, Play.with("joined(?)", "least", -1, 0, 1, 2, 3, 4, "most"));
    }

    static void promise23NoLanes() {
        joined(new Play(), 3, 1, 3, 1);
        joined(new Play("yard(2, 1) = true"), 2, 1, 2, 1);
        joined(new Play("yard(4, 7) = true"), 16384, 1, 16384, 1);
    }

    static void promise23AllLanes() {
        joined(new Play("yard(4, 7) = true", "lanes() = 12"), 1, 16384, 1, 16384);
        joined(new Play("yard(5, 6) = true", "lanes() = 20"), 1, 15625, 1, 15625);
        joined(new Play("yard(2, 1) = true", "lanes() = 2"), 1, 2, 1, 2);
    }

    static void promise23EachNextToOneOrTwo() {
        // In a line of three PEGS all STANDS are a line, too.
        joined(new Play(line(3, 7, 9)), 1, 2187, 1, 2187);
    }

    static void promise23LaneOneWay() {
        joined(new Play("yard(2, 1) = true", "lane(0, 1, 1, true) = true"), 2, 1, 1, 1);
        // A pair that leads to a third one, and from it.
        joined(new Play("lane(0, 1, 1, true) = true", "lane(1, 0, 1, true) = true", "lane(1, 2, 1, true) = true"),
                2, 2, 1, 2);
        joined(new Play("lane(0, 1, 1, true) = true", "lane(1, 0, 1, true) = true", "lane(2, 1, 1, true) = true",
                "stand(2, false) = true"), 2, 1, 1, 2);
    }

    static void promise23RightOnesAlone() {
        joined(new Play(SIX_RIGHT), 1, 6, 1, 6);
        joined(new Play(SIX_RIGHT).say(Play.with("lane(0, ?, 0, true) = true", 1, 2))
                .say(Play.with("lane(1, ?, 0, true) = true", 0, 2))
                .say(Play.with("lane(2, ?, 0, true) = true", 0, 1)), 6, 1, 6, 1);
    }

    static void promise23AnewBehindEachChange() {
        Play play = new Play("lanes() = 6");
        joined(play, 1, 3, 1, 3);
        joined(play.say("lane(0, 1, 0, true) = true", "lane(0, 2, 0, true) = true"), 2, 1, 1, 2);
        joined(play.say("about() = 4"), 2, 1, 1, 2);
        joined(play.say("rename(2, 0, 1, 3, 4) = true", "stand(0, false) = true"), 2, 2, 1, 2);
        joined(play.say("kind(0, 1) = true", "lane(2, 0, 1, false) = true"), 2, 2, 1, 2);
        joined(play.say("lane(0, 1, 1, false) = true"), 3, 1, 1, 1);
        joined(play.say("kind(0, 0) = true"), 2, 2, 1, 2);
        joined(play.say("yard(3, 1) = true"), 3, 1, 3, 1);
        joined(play.say("lanes() = 6"), 1, 3, 1, 3);
    }

    static void promise23OfTheStandNotOfTheGreatest() {
        // The two discs of a PACK never part: three STANDS of one, six of the other set.
        String[] sticky = {"yard(3, 2) = true", "kind(0, 3) = true", "kind(1, 3) = true", "lanes() = 6"};
        joined(new Play(sticky), 2, 3, 1, 6);
        joined(new Play(sticky).say("stand(1, false) = true"), 2, 6, 1, 6);
    }

    // ---- promise 24, rename

    static void promise24OtherNumbersAreRefused() {
        for (int place = 0; place < 3; place++) {
            Play.refusals(1, Play.BUSY, Play.with(PLACES[place], "least", -1, 3, 4, 32, 33, 34, "most"));
        }
    }

    static void promise24OneTwiceIsRefused() {
        Play.refusals(1, Play.BUSY, "rename(0, 0, 2, 3, 4)", "rename(0, 1, 0, 3, 4)", "rename(1, 1, 2, 3, 4)",
                "rename(0, 2, 2, 1, 4)", "rename(1, 2, 1, 0, 0)", "rename(0, 0, 0, 1, 2)");
    }

    static void promise24ThoseBeyondThePegsAreNoMatter() {
        for (int pegs = 2; pegs <= 5; pegs++) {
            for (int place = 0; place < 5; place++) {
                for (Object word : new Object[] {"least", -1, 0, 5, "most"}) {
                    String call = PLACES[place].replace("?", word.toString());
                    Play play = new Play("yard(" + pegs + ", 1) = true", "lane(0, 1, 7, true) = true");
                    if (place >= pegs || word.equals(place)) {
                        play.taken(call + " = true");
                    } else {
                        play.refused(1, call);
                    }
                    play.say("cost(0, 1) = 7");
                }
            }
        }
    }

    static void promise24LanesStandAndGoalWithIt() {
        new Play(Play.BUSY).taken("rename(1, 2, 0, least, most) = true").say("cost(1, 2) = 5", "cost(2, 0) = 2",
                "cost(0, 1) = 3", "cost(2, 1) = 4", "cost(1, 0) = 7", "cost(0, 2) = 0", "size(2) = 5", "peg(0) = 0",
                "peg(1) = 2", "peg(2) = 1", "number(false) = 15", "number(true) = 10", "size(7) = 24",
                // WHY is as it was: STRONG went along.
                "why(1, 2) = 4", "why(1, 0) = 3", "why(2, 1) = 3", "why(0, 1) = 0", "why(0, 2) = 1");
    }

    static void promise24RightBehindIt() {
        new Play(Play.BUSY).taken("rename(2, 0, 1, 0, 0) = true").say("stand(0, true) = false", "trouble() = 3",
                "stand(1, true) = true", "reach()", "joined(1)");
    }

    static void promise24ToTheSameNames() {
        new Play(Play.BUSY).taken("rename(0, 1, 2, 9, 9) = true").say("number(false) = 5", "number(true) = 6",
                "cost(0, 1) = 5", "cost(1, 0) = 4", "size(2) = 5");
    }

    static void promise24NothingCanBeUndone() {
        new Play(Play.BUSY).taken("rename(0, 1, 2, 3, 4) = true").say("size(4) = 0", "size(5) = 0", "undo() = 0",
                "redo() = 0");
    }

    static void promise24AllFivePegs() {
        new Play("yard(5, 7) = true", "lane(0, 4, 9, true) = true", "lane(3, 1, 8, true) = true",
                "stand(78124, true) = true").taken("rename(4, 3, 2, 1, 0) = true").say("cost(4, 0) = 9",
                "cost(1, 3) = 8", "number(false) = 78124", "number(true) = 0", "size(2) = 2");
    }

    static void promise24RowsAnewThoughTheStandIsAsItWas() {
        Play play = new Play("lane(0, 1, 5, true) = true", "stand(1, true) = true", "farthest() = 1", "fewest() = 5");
        joined(play, 3, 1, 2, 1);
        play.taken("rename(0, 2, 1, 3, 4) = true").say("number(false) = 0", "number(true) = 2", "farthest() = 2",
                "fewest() = 5", "plan() = 1", "planned(0) = 2");
        joined(play, 3, 1, 2, 1);
        // PEG 1 is PEG 0 now: of it, not of the STAND's old PEG, a LANE leads on.
        play.taken("rename(1, 0, 2, 3, 4) = true").say("number(false) = 1", "reach() = 2", "stand(0, false) = true",
                "reach() = 1");
    }

    // ---- promise 25, about

    static void promise25NoLanes() {
        new Play("stand(2, true) = true").untroubled("about() = 0").say("size(2) = 0");
        new Play("stand(2, true) = true", "about() = 0", "number(false) = 2", "number(true) = 0", "about() = 0",
                "number(false) = 0", "number(true) = 2");
    }

    static void promise25HowMany() {
        new Play(Play.BUSY).say("about() = 5", "size(2) = 5");
        new Play("yard(5, 7) = true", "lanes() = 20", "about() = 20", "size(2) = 20");
    }

    static void promise25AllTheOtherWay() {
        new Play(Play.BUSY).say("about() = 5", "cost(1, 0) = 5", "cost(2, 1) = 2", "cost(0, 2) = 3", "cost(0, 1) = 4",
                "cost(2, 0) = 7", "cost(1, 2) = 0");
    }

    static void promise25StrongWithIt() {
        // STRONG from each PEG to the greater ones, weak to the lesser ones; then the other way.
        Play play = new Play("yard(5, 1) = true", "kind(0, 1) = true");
        for (int a = 0; a < 5; a++) {
            for (int b = 0; b < 5; b++) {
                if (a != b) {
                    play.say("lane(" + a + ", " + b + ", 1, " + (a < b) + ") = true");
                }
            }
        }
        play.say("about() = 20");
        for (int a = 0; a < 5; a++) {
            play.say("stand(" + a + ", false) = true");
            for (int b = 0; b < 5; b++) {
                play.say("why(" + a + ", " + b + ") = " + (a == b ? 1 : a < b ? 3 : 0));
            }
        }
    }

    static void promise25StandAndGoalExchanged() {
        new Play(Play.BUSY).say("about() = 5", "number(false) = 6", "number(true) = 5", "about() = 5",
                "number(false) = 5", "number(true) = 6", "cost(0, 1) = 5");
        new Play("yard(5, 7) = true", "stand(78124, true) = true", "about() = 0", "number(false) = 78124",
                "number(true) = 0");
    }

    static void promise25RowsAnewThoughTheStandIsAsItWas() {
        Play play = new Play("lane(0, 1, 5, true) = true", "lane(0, 2, 5, true) = true", "reach() = 3", "far() = 5");
        joined(play, 3, 1, 2, 1);
        play.say("about() = 2", "number(false) = 0", "number(true) = 0", "reach() = 1", "far() = 0");
        joined(play, 3, 1, 1, 1);
    }

    static void promise25NothingCanBeUndone() {
        new Play(Play.BUSY).say("about() = 5", "size(4) = 0", "size(5) = 0", "undo() = 0", "redo() = 0",
                "number(false) = 6");
    }
}
