/** The boundary cases of the promises 1 to 10: the yard. */
final class YardBounds {
    private static final Object[] NO_PEGS_OF_3 = {"least", -1, 3, 4, "most"};

    private YardBounds() {
    }

    // ---- promise 1, a new object

    static void promise01ThreePegs() {
        new Play("size(0) = 3", "cost(2, 0) = 0", "cost(3, 0) = none", "why(0, 2) = 1", "why(0, 3) = none",
                "disc(2, 0) = none", "stand(2, true) = true", "stand(3, true) = false");
    }

    static void promise01OnePlainDiscOnPeg0() {
        new Play("size(1) = 1", "size(7) = 0", "peg(0) = 0", "peg(1) = none", "disc(0, 0) = 0", "disc(0, 1) = none",
                "disc(1, 0) = none", "disc(2, 0) = none", "kind(1, 0) = false", "lane(0, 2, 1, false) = true",
                "move(0, 2) = 1");
    }

    static void promise01NoLanes() {
        Play play = new Play("size(2) = 0", "moves() = 0", "about() = 0");
        for (int a = 0; a < 3; a++) {
            play.say(Play.with("cost(" + a + ", ?) = 0", 0, 1, 2)).say(Play.with("why(" + a + ", ?) = 1", 0, 1, 2));
        }
        new Play("reach() = 1", "joined(0) = 3", "joined(1) = 1", "joined(2) = 3", "joined(3) = 1");
    }

    static void promise01NoSchemes() {
        new Play("size(3) = 0").refused(1, "single(0, 0, 1)", "call(0, 0, 1, 0, 1, 2, 3, 4)", "count(0, 0)",
                "tried(0, 1, 0, 1, 2, 3, 4)").say("size(3) = 0", "scheme() = 0");
    }

    static void promise01GoalIsTheStand() {
        new Play("number(false) = 0", "number(true) = 0", "fewest() = 0", "plan() = 0", "ways() = 1");
    }

    static void promise01NothingIsDoneYet() {
        new Play("trouble() = 0", "failed() = none", "planned(0) = none", "undo() = 0", "redo() = 0", "size(4) = 0",
                "size(5) = 0", "size(6) = 0");
    }

    static void promise01ObjectsAreApart() {
        Play other = new Play();
        new Play(Play.BUSY).say("size(2) = 5");
        other.say("size(0) = 3", "size(1) = 1", "size(2) = 0", "size(3) = 0", "size(7) = 0", "failed() = none");
    }

    // ---- promise 2, yard

    static void promise02FewestAndMostPegsAndDiscs() {
        int[][] taken = {{2, 1, 1}, {2, 7, 127}, {3, 4, 80}, {4, 7, 16383}, {5, 1, 4}, {5, 6, 15624}, {5, 7, 78124}};
        for (int[] t : taken) {
            new Play(Play.BUSY).taken("yard(" + t[0] + ", " + t[1] + ") = true")
                    .say("size(0) = " + t[0], "size(1) = " + t[1], "peg(" + (t[1] - 1) + ") = 0",
                            "peg(" + t[1] + ") = none", "cost(0, " + (t[0] - 1) + ") = 0", "cost(0, " + t[0] + ") = none",
                            "stand(" + t[2] + ", true) = true", "stand(" + (t[2] + 1) + ", true) = false");
        }
    }

    static void promise02OtherNumbersAreRefused() {
        Play.refusals(1, Play.BUSY, Play.rows(
                Play.with("yard(?, 3)", "least", -1, 0, 1, 6, 7, "most"),
                Play.with("yard(3, ?)", "least", -1, 0, 8, 9, "most"),
                Play.with("yard(2, ?)", 0, 8), Play.with("yard(5, ?)", 0, 8),
                Play.with("yard(?, 1)", 1, 6), Play.with("yard(?, 7)", 1, 6),
                Play.with("yard(?, ?)", "least", 0, 8, "most")));
    }

    static void promise02AllArePlainOnPeg0() {
        new Play(Play.BUSY).taken("yard(3, 3) = true").say("size(7) = 0", "number(false) = 0", "peg(0) = 0",
                "peg(1) = 0", "peg(2) = 0", "disc(0, 0) = 2", "disc(0, 2) = 0", "disc(1, 0) = none");
    }

    static void promise02KindsDoNotComeBack() {
        new Play("yard(2, 7) = true", "kind(6, 3) = true", "yard(2, 1) = true", "size(7) = 0", "yard(2, 7) = true",
                "size(7) = 0");
    }

    static void promise02NoLanes() {
        new Play(Play.BUSY).taken("yard(3, 3) = true").say("size(2) = 0", "cost(0, 1) = 0", "cost(2, 0) = 0",
                "moves() = 0");
    }

    static void promise02LanesDoNotComeBack() {
        new Play("yard(5, 1) = true", "lanes() = 20", "yard(2, 1) = true", "size(2) = 0", "yard(5, 1) = true",
                "size(2) = 0", "cost(3, 4) = 0", "about() = 0");
    }

    static void promise02GoalIsTheStand() {
        new Play(Play.BUSY).taken("yard(3, 3) = true").say("number(true) = 0", "number(false) = 0", "fewest() = 0");
        new Play("yard(5, 7) = true", "stand(78124, true) = true", "yard(2, 1) = true", "number(true) = 0");
    }

    static void promise02NothingCanBeUndone() {
        new Play(Play.BUSY).say("size(4) = 2", "size(5) = 1").taken("yard(3, 3) = true").say("size(4) = 0",
                "size(5) = 0", "undo() = 0", "redo() = 0", "number(false) = 0");
    }

    static void promise02SchemesStay() {
        new Play(Play.BUSY).taken("yard(2, 1) = true").say("size(3) = 2", "count(0, 5) = 31", "count(1, 5) = 1",
                "lane(0, 1, 1, false) = true", "tried(1, 1, 0, 1, 9, 9, 9) = 1", "scheme() = 2");
    }

    // ---- promise 3, kind

    static void promise03FirstAndLastDisc() {
        new Play().taken("kind(0, 3) = true").refused(1, "kind(1, 3)");
        new Play("yard(2, 7) = true").taken("kind(0, 3) = true", "kind(6, 3) = true").refused(1, "kind(7, 3)")
                .say("size(7) = 12291");
    }

    static void promise03FirstAndLastKind() {
        new Play().taken("kind(0, 1) = true").say("size(7) = 1").taken("kind(0, 2) = true").say("size(7) = 2")
                .taken("kind(0, 3) = true").say("size(7) = 3").taken("kind(0, 0) = true").say("size(7) = 0");
    }

    static void promise03OtherNumbersAreRefused() {
        Play.refusals(1, Play.BUSY, Play.rows(Play.with("kind(?, 0)", "least", -1, 3, 4, 7, "most"),
                Play.with("kind(0, ?)", "least", -1, 4, 5, "most"), Play.with("kind(?, ?)", "least", -1, 4, "most")));
    }

    static void promise03StandWouldNotBeRight() {
        String[] ahead = {"yard(3, 2) = true", "lanes() = 6", "stand(1, true) = true"};
        Play.refusals(3, ahead, "kind(1, 2)");
    }

    static void promise03GoalWouldNotBeRight() {
        String[] ahead = {"yard(3, 2) = true", "lanes() = 6", "move(0, 1) = 1", "move(0, 2) = 1", "undo() = 1"};
        Play.refusals(3, ahead, "kind(1, 2)");
    }

    static void promise03UpperOneMustStayRinged() {
        String[] ahead = {"yard(3, 2) = true", "kind(0, 2) = true", "kind(1, 2) = true", "lanes() = 6",
            "move(0, 1) = 1"};
        Play.refusals(3, ahead, Play.with("kind(0, ?)", 0, 1, 3));
        String[] byGoal = {"yard(3, 2) = true", "kind(0, 2) = true", "kind(1, 2) = true", "stand(1, true) = true"};
        Play.refusals(3, byGoal, Play.with("kind(0, ?)", 0, 1, 3));
    }

    static void promise03EachOtherKindOnRinged() {
        for (int kind = 0; kind < 4; kind++) {
            Play play = new Play("yard(2, 2) = true", "kind(0, " + kind + ") = true");
            if (kind == 2) {
                play.taken("kind(1, 2) = true").say("size(7) = 10");
            } else {
                play.refused(3, "kind(1, 2)").say("size(7) = " + kind);
            }
        }
    }

    static void promise03RightOnIsWithoutOneBetween() {
        // Disc 1 elsewhere: disc 0 lies right on disc 2.
        new Play("yard(2, 3) = true", "stand(2, false) = true", "stand(2, true) = true").refused(3, "kind(2, 2)");
        // A RINGED disc 1 between: disc 2 has nothing but a RINGED one right on it, disc 1 hasn't.
        new Play("yard(2, 3) = true").refused(3, "kind(1, 2)", "kind(2, 2)");
        new Play("yard(2, 3) = true", "stand(1, false) = true", "stand(1, true) = true").taken("kind(1, 2) = true",
                "kind(2, 2) = true").say("size(7) = 40");
    }

    static void promise03RingedWithNothingOnIt() {
        new Play("yard(2, 2) = true").taken("kind(0, 2) = true").say("size(7) = 2");
        new Play("yard(2, 2) = true", "stand(1, false) = true", "stand(2, true) = true").taken("kind(1, 2) = true");
    }

    static void promise03NothingCanBeUndone() {
        new Play(Play.BUSY).taken("kind(0, 3) = true").say("size(4) = 0", "size(5) = 0", "undo() = 0", "redo() = 0",
                "number(false) = 5");
        new Play(Play.BUSY).taken("kind(0, 0) = true").say("size(4) = 0", "size(5) = 0");
    }

    // ---- promise 4, lane

    static void promise04LeastAndGreatestCost() {
        new Play().taken("lane(0, 1, 1, true) = true").say("cost(0, 1) = 1").taken("lane(0, 1, 100, true) = true")
                .say("cost(0, 1) = 100", "size(2) = 1");
    }

    static void promise04OtherNumbersAreRefused() {
        Play.refusals(1, Play.BUSY, Play.rows(Play.with("lane(0, 1, ?, false)", "least", -100, -1, 101, 102, "most"),
                Play.with("lane(?, 1, 9, true)", NO_PEGS_OF_3), Play.with("lane(0, ?, 9, false)", NO_PEGS_OF_3),
                Play.with("lane(?, 1, 0, true)", NO_PEGS_OF_3), Play.with("lane(0, ?, 0, false)", NO_PEGS_OF_3),
                Play.with("lane(2, 1, ?, true)", "least", -1, 101, "most")));
    }

    static void promise04FromAPegToItselfIsRefused() {
        Play.refusals(1, Play.BUSY, Play.rows(Play.with("lane(?, ?, 1, true)", 0, 1, 2),
                Play.with("lane(?, ?, 0, false)", 0, 1, 2), Play.with("lane(?, ?, 1, true)", NO_PEGS_OF_3)));
    }

    static void promise04LastPeg() {
        for (int pegs = 2; pegs <= 5; pegs++) {
            int last = pegs - 1;
            new Play("yard(" + pegs + ", 1) = true")
                    .taken("lane(0, " + last + ", 9, false) = true", "lane(" + last + ", 0, 8, false) = true")
                    .refused(1, "lane(0, " + pegs + ", 7, false)", "lane(" + pegs + ", 0, 7, false)")
                    .say("cost(0, " + last + ") = 9", "cost(" + last + ", 0) = 8", "size(2) = 2");
        }
    }

    static void promise04Cost0IsNoLane() {
        new Play(Play.BUSY).taken("lane(0, 1, 0, true) = true").say("cost(0, 1) = 0", "size(2) = 4", "why(0, 1) = 1",
                "cost(1, 0) = 4").taken("lane(0, 1, 0, false) = true").say("size(2) = 4");
        new Play().taken("lane(2, 1, 0, true) = true").say("size(2) = 0", "moves() = 0");
    }

    static void promise04StrongOrNot() {
        new Play("kind(0, 1) = true").taken("lane(0, 1, 1, false) = true").say("why(0, 1) = 3")
                .taken("lane(0, 1, 1, true) = true").say("why(0, 1) = 0").taken("lane(0, 1, 0, true) = true")
                .say("why(0, 1) = 1").taken("lane(0, 1, 1, false) = true").say("why(0, 1) = 3");
    }

    static void promise04OneWayAlone() {
        new Play().taken("lane(0, 1, 7, true) = true").say("cost(1, 0) = 0", "cost(0, 2) = 0", "size(2) = 1",
                "move(0, 1) = 1", "why(1, 0) = 1");
    }

    static void promise04NothingCanBeUndone() {
        String[] rows = {"lane(2, 1, 1, true) = true", "lane(0, 1, 5, true) = true", "lane(2, 1, 0, false) = true"};
        for (String row : rows) {
            new Play(Play.BUSY).taken(row).say("size(4) = 0", "size(5) = 0", "undo() = 0", "redo() = 0",
                    "number(false) = 5");
        }
    }

    // ---- promise 5, lanes

    static void promise05HowMany() {
        int[] many = {2, 6, 12, 20};
        for (int pegs = 2; pegs <= 5; pegs++) {
            new Play("yard(" + pegs + ", 1) = true", "lanes() = " + many[pegs - 2], "size(2) = " + many[pegs - 2],
                    "lanes() = " + many[pegs - 2], "size(2) = " + many[pegs - 2]);
        }
    }

    static void promise05EachWayAtCost1() {
        for (int pegs = 2; pegs <= 5; pegs++) {
            Play play = new Play("yard(" + pegs + ", 1) = true", "lane(1, 0, 100, false) = true", "lanes()");
            for (int a = 0; a < pegs; a++) {
                for (int b = 0; b < pegs; b++) {
                    play.say("cost(" + a + ", " + b + ") = " + (a == b ? 0 : 1));
                }
            }
        }
    }

    static void promise05Strong() {
        new Play("kind(0, 1) = true", "lane(0, 1, 1, false) = true", "why(0, 1) = 3", "lanes() = 6", "why(0, 1) = 0",
                "why(0, 2) = 0");
    }

    static void promise05NothingCanBeUndone() {
        new Play(Play.BUSY).say("lanes() = 6", "size(4) = 0", "size(5) = 0", "undo() = 0", "redo() = 0",
                "number(false) = 5", "number(true) = 6", "size(7) = 24");
    }

    // ---- promise 6, cost

    static void promise06NoneForOtherPegs() {
        for (int pegs = 2; pegs <= 5; pegs++) {
            Object[] wrong = {"least", -1, pegs, pegs + 1, "most"};
            new Play("yard(" + pegs + ", 2) = true", "lanes()").say(Play.with("cost(?, 0) = none", wrong))
                    .say(Play.with("cost(0, ?) = none", wrong)).say(Play.with("cost(?, ?) = none", wrong))
                    .say("cost(0, " + (pegs - 1) + ") = 1", "cost(" + (pegs - 1) + ", 0) = 1");
        }
    }

    static void promise06ZeroWithoutALane() {
        new Play("lane(2, 0, 100, false) = true", "cost(2, 0) = 100", "cost(0, 2) = 0", "cost(2, 1) = 0")
                .say(Play.with("cost(?, ?) = 0", 0, 1, 2));
    }

    // ---- promise 7, stand

    static void promise07FirstAndLastNumber() {
        int[][] last = {{2, 1, 1}, {3, 1, 2}, {2, 7, 127}, {3, 7, 2186}, {5, 6, 15624}, {5, 7, 78124}};
        for (int[] l : last) {
            for (String goal : new String[] {"false", "true"}) {
                new Play("yard(" + l[0] + ", " + l[1] + ") = true").taken("stand(" + l[2] + ", " + goal + ") = true")
                        .say("number(" + goal + ") = " + l[2]).refused(1, "stand(" + (l[2] + 1) + ", " + goal + ")")
                        .say("number(" + goal + ") = " + l[2]).taken("stand(0, " + goal + ") = true")
                        .say("number(" + goal + ") = 0").refused(1, "stand(-1, " + goal + ")");
            }
        }
    }

    static void promise07OtherNumbersAreRefused() {
        Play.refusals(1, Play.BUSY, Play.rows(Play.with("stand(?, false)", "least", -27, -1, 27, 28, 81, "most"),
                Play.with("stand(?, true)", "least", -27, -1, 27, 28, 81, "most")));
    }

    static void promise07NotRightIsRefused() {
        Object[] same = {0, 4, 8, 9, 13, 17, 18, 22, 26};
        Play.refusals(3, Play.BUSY, Play.rows(Play.with("stand(?, false)", same), Play.with("stand(?, true)", same)));
    }

    static void promise07AllOthersAreRight() {
        Play play = new Play(Play.BUSY);
        for (int number = 0; number < 27; number++) {
            boolean right = number % 3 != number / 3 % 3;
            play.say("stand(" + number + ", true) = " + right, "stand(" + number + ", false) = " + right);
        }
    }

    static void promise07NewStandForgetsMoves() {
        Play play = new Play(Play.BUSY).taken("stand(7, false) = true");
        play.say("size(4) = 0", "size(5) = 0", "undo() = 0", "redo() = 0", "number(false) = 7", "number(true) = 6");
        new Play(Play.BUSY).say("number(false) = 5").taken("stand(5, false) = true").say("size(4) = 0", "size(5) = 0");
    }

    static void promise07NewGoalForgetsNone() {
        new Play(Play.BUSY).taken("stand(7, true) = true").say("size(4) = 2", "size(5) = 1", "number(false) = 5",
                "number(true) = 7", "redo() = 1", "number(false) = 3");
    }

    // ---- promise 8, number

    static void promise08LeastAndGreatest() {
        new Play("yard(5, 7) = true", "number(false) = 0", "number(true) = 0", "stand(78124, true) = true",
                "number(true) = 78124", "number(false) = 0", "about() = 0", "number(false) = 78124", "number(true) = 0");
        new Play("yard(2, 1) = true", "stand(1, false) = true", "number(false) = 1", "number(true) = 0");
    }

    static void promise08SumOfPegsTimesPowers() {
        int[][] fives = {{0, 4}, {1, 20}, {2, 100}, {3, 500}, {4, 2500}, {5, 12500}, {6, 62500}};
        for (int[] f : fives) {
            Play play = new Play("yard(5, 7) = true", "stand(" + f[1] + ", false) = true");
            for (int disc = 0; disc < 7; disc++) {
                play.say("peg(" + disc + ") = " + (disc == f[0] ? 4 : 0));
            }
        }
    }

    // ---- promise 9, peg

    static void promise09NoneForOtherDiscs() {
        for (int discs = 1; discs <= 7; discs++) {
            new Play("yard(3, " + discs + ") = true", "peg(0) = 0", "peg(" + (discs - 1) + ") = 0")
                    .say(Play.with("peg(?) = none", "least", -1, discs, discs + 1, "most"));
        }
    }

    static void promise09InTheStandNotInTheGoal() {
        new Play("yard(3, 2) = true", "stand(8, true) = true", "peg(0) = 0", "peg(1) = 0", "stand(7, false) = true",
                "peg(0) = 1", "peg(1) = 2");
    }

    // ---- promise 10, disc

    static void promise10EmptyPeg() {
        new Play("disc(1, 0) = none", "disc(2, 0) = none", "stand(1, false) = true", "disc(0, 0) = none",
                "disc(1, 0) = 0").say(Play.with("disc(2, ?) = none", "least", -1, 0, 1, "most"));
    }

    static void promise10LowestAndTopOne() {
        Play play = new Play("yard(2, 7) = true");
        for (int k = 0; k < 7; k++) {
            play.say("disc(0, " + k + ") = " + (6 - k));
        }
        play.say(Play.with("disc(0, ?) = none", "least", -1, 7, 8, "most"));
        // Discs 1, 3 and 6 on PEG 1.
        play.say("stand(74, false) = true", "disc(1, 0) = 6", "disc(1, 1) = 3", "disc(1, 2) = 1", "disc(1, 3) = none",
                "disc(0, 0) = 5", "disc(0, 3) = 0", "disc(0, 4) = none");
    }

    static void promise10NoneForOtherPegs() {
        for (int pegs = 2; pegs <= 5; pegs++) {
            new Play("yard(" + pegs + ", 2) = true", "disc(" + (pegs - 1) + ", 0) = none",
                    "stand(" + (pegs * pegs - 1) + ", false) = true", "disc(" + (pegs - 1) + ", 1) = 0")
                    .say(Play.with("disc(?, 0) = none", "least", -1, pegs, pegs + 1, "most"));
        }
    }
}
