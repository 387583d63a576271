/** The boundary cases of the promises 11 to 15: moves. */
final class MoveBounds {
    /** BUSY, with all three moves undone: disc 0 on PEG 1, the RINGED one and the HEAVY one on PEG 0. */
    private static final String[] ALL_UNDONE = Play.rows(Play.BUSY, new String[] {"undo() = 1", "undo() = 1"});
    private static final Object[] NO_PEGS_OF_3 = {"least", -1, 3, 4, "most"};

    private MoveBounds() {
    }

    /** Two discs on unlike PEGS of three, disc 0 on PEG 1 and disc 1 on PEG 0, of KINDS. */
    private static Play pair(int kind0, int kind1, boolean strong) {
        return new Play("yard(3, 2) = true", "stand(1, false) = true", "stand(1, true) = true",
                "kind(0, " + kind0 + ") = true", "kind(1, " + kind1 + ") = true", "lane(0, 1, 1, " + strong + ") = true",
                "lane(1, 0, 1, " + strong + ") = true", "lane(1, 2, 1, " + strong + ") = true",
                "lane(2, 0, 1, " + strong + ") = true");
    }

    // ---- promise 11, why

    static void promise11NoneForOtherPegs() {
        for (int pegs = 2; pegs <= 5; pegs++) {
            Object[] wrong = {"least", -1, pegs, pegs + 1, "most"};
            new Play("yard(" + pegs + ", 1) = true", "lanes()", "why(0, " + (pegs - 1) + ") = 0")
                    .say(Play.with("why(?, 0) = none", wrong)).say(Play.with("why(0, ?) = none", wrong))
                    .say(Play.with("why(?, ?) = none", wrong));
        }
    }

    static void promise11NoLane() {
        new Play("why(0, 1) = 1", "why(1, 0) = 1", "lanes() = 6").say(Play.with("why(?, ?) = 1", 0, 1, 2))
                .say("lane(0, 1, 0, true) = true", "why(0, 1) = 1", "why(0, 2) = 0");
    }

    static void promise11NoDisc() {
        new Play("lane(1, 0, 1, false) = true", "lane(1, 2, 1, true) = true", "why(1, 0) = 2", "why(1, 2) = 2");
    }

    static void promise11WeakLane() {
        int[] want = {0, 3, 3, 0};
        for (int kind = 0; kind < 4; kind++) {
            pair(kind, 0, false).say("why(1, 2) = " + want[kind]);
            pair(kind, 0, true).say("why(1, 2) = 0");
        }
    }

    static void promise11LesserOne() {
        // The neighbours in number, both ways.
        pair(0, 0, false).say("why(0, 1) = 4", "why(1, 0) = 0");
        new Play("yard(2, 7) = true", "lanes() = 2", "stand(32, false) = true", "why(1, 0) = 4", "why(0, 1) = 0",
                "stand(95, false) = true", "why(0, 1) = 4", "why(1, 0) = 0");
    }

    static void promise11OntoRinged() {
        int[] strong = {5, 5, 0, 5};
        int[] weak = {5, 3, 3, 5};
        for (int kind = 0; kind < 4; kind++) {
            pair(kind, 2, true).say("why(1, 0) = " + strong[kind]);
            pair(kind, 2, false).say("why(1, 0) = " + weak[kind]);
        }
    }

    static void promise11OntoNothing() {
        pair(0, 2, true).say("why(1, 2) = 0");
        pair(2, 2, true).say("why(1, 2) = 0");
    }

    static void promise11FirstOfSeveral() {
        // No LANE ahead of no disc, a weak LANE, a lesser one.
        pair(0, 0, false).say("why(2, 1) = 1");
        pair(0, 1, false).say("lane(0, 1, 0, false) = true", "why(0, 1) = 1");
        // No disc ahead of all that the other PEG has.
        pair(2, 2, false).say("why(2, 0) = 2");
        // A weak LANE ahead of a lesser one, be it RINGED, and of a RINGED one.
        pair(0, 1, false).say("why(0, 1) = 3");
        pair(2, 1, false).say("why(0, 1) = 3");
        pair(1, 2, false).say("why(1, 0) = 3");
        // A lesser one ahead of a RINGED one.
        pair(2, 0, false).say("why(0, 1) = 4");
        pair(2, 1, true).say("why(0, 1) = 4");
    }

    static void promise11PacksOntoRinged() {
        new Play("yard(2, 3) = true", "stand(3, false) = true", "stand(3, true) = true", "kind(0, 3) = true",
                "kind(1, 3) = true", "kind(2, 2) = true", "lanes() = 2", "why(1, 0) = 5", "why(0, 1) = 4");
    }

    // ---- promise 12, move

    static void promise12OtherPegsAreRefused() {
        Play.refusals(1, Play.BUSY, Play.rows(Play.with("move(?, 0)", NO_PEGS_OF_3), Play.with("move(0, ?)", NO_PEGS_OF_3),
                Play.with("move(?, ?)", NO_PEGS_OF_3)));
    }

    static void promise12EachWhyIsRefused() {
        new Play(Play.BUSY).say("why(0, 0) = 1", "why(2, 1) = 1", "why(0, 2) = 3", "why(1, 0) = 3", "why(0, 1) = 4",
                "why(1, 2) = 4", "why(2, 0) = 0");
        Play.refusals(4, Play.BUSY, "move(0, 0)", "move(1, 1)", "move(2, 2)", "move(2, 1)", "move(0, 2)", "move(1, 0)",
                "move(0, 1)", "move(1, 2)");
        new Play(ALL_UNDONE).say("why(2, 0) = 2", "why(1, 0) = 5");
        Play.refusals(4, ALL_UNDONE, "move(2, 0)", "move(1, 0)");
    }

    static void promise12OtherPegsAheadOfWhy() {
        new Play().refused(1, "move(0, 3)", "move(3, 3)", "move(-1, -1)").refused(4, "move(0, 2)", "move(2, 2)");
    }

    static void promise12HowManyWent() {
        for (int discs = 1; discs <= 7; discs++) {
            Play play = new Play("yard(2, " + discs + ") = true", "lanes() = 2");
            for (int disc = 0; disc < discs; disc++) {
                play.say("kind(" + disc + ", 3) = true");
            }
            play.taken("move(0, 1) = " + discs).say("number(false) = " + ((1 << discs) - 1), "disc(0, 0) = none",
                    "disc(1, 0) = " + (discs - 1), "size(4) = 1", "number(true) = 0");
        }
    }

    static void promise12PackEndsAtAnotherKind() {
        for (int kind = 0; kind < 2; kind++) {
            new Play("yard(3, 4) = true", "lanes() = 6", "kind(0, 3) = true", "kind(1, 3) = true",
                    "kind(2, " + kind + ") = true", "kind(3, 3) = true")
                    .taken("move(0, 1) = 2", "move(0, 2) = 1", "move(1, 2) = 2", "move(0, 1) = 1");
        }
    }

    static void promise12PackEndsAtAGap() {
        // Disc 1 elsewhere: disc 2 is right below disc 0, but not of the number one more.
        new Play("yard(3, 3) = true", "lanes() = 6", "kind(0, 3) = true", "kind(1, 3) = true", "kind(2, 3) = true",
                "stand(3, false) = true").taken("move(0, 2) = 1").say("number(false) = 5");
    }

    static void promise12OthersAreAPackAlone() {
        for (int kind = 0; kind < 3; kind++) {
            new Play("yard(2, 2) = true", "kind(0, " + kind + ") = true", "kind(1, " + kind + ") = true", "lanes() = 2")
                    .taken("move(0, 1) = 1").say("number(false) = 1");
        }
    }

    static void promise12GoalStays() {
        new Play("lanes() = 6").taken("move(0, 2) = 1").say("number(false) = 2", "number(true) = 0");
    }

    // ---- promise 13, undo

    static void promise13NothingToUndo() {
        new Play("undo() = 0", "number(false) = 0", "size(4) = 0", "size(5) = 0").untroubled("undo() = 0");
        new Play(ALL_UNDONE).say("undo() = 0", "number(false) = 1", "size(4) = 0", "size(5) = 3", "redo() = 1",
                "number(false) = 2");
    }

    static void promise13RefusedMovesCannotBeUndone() {
        new Play("lane(0, 1, 1, false) = true", "move(0, 2) = none", "move(0, 3) = none", "undo() = 0", "move(0, 1) = 1",
                "move(0, 1) = none", "undo() = 1", "number(false) = 0", "undo() = 0");
    }

    static void promise13EachIsUndoneOnce() {
        new Play(Play.BUSY).say("number(false) = 5", "undo() = 1", "number(false) = 2", "undo() = 1",
                "number(false) = 1", "undo() = 0", "number(false) = 1");
    }

    private static Play walked(int moves) {
        Play play = new Play("lanes() = 6");
        for (int k = 0; k < moves; k++) {
            play.say("move(" + k % 3 + ", " + (k + 1) % 3 + ") = 1");
        }
        return play;
    }

    /** Asks for the STAND behind the first and the last of them, as 512 calls are not enough for all. */
    private static void undoAll(Play play, int moves, int undone) {
        for (int k = 1; k <= undone; k++) {
            play.say("undo() = 1");
            if (k <= 20 || k > undone - 20) {
                play.say("number(false) = " + (moves - k) % 3);
            }
        }
        play.say("size(4) = 0", "size(5) = " + undone, "undo() = 0", "number(false) = " + (moves - undone) % 3,
                "size(5) = " + undone);
    }

    static void promise13The199thMove() {
        undoAll(walked(199).say("size(4) = 199"), 199, 199);
    }

    static void promise13The200thMove() {
        undoAll(walked(200).say("size(4) = 200"), 200, 200);
    }

    static void promise13The201stMove() {
        undoAll(walked(201).say("size(4) = 200"), 201, 200);
    }

    static void promise13The260thMove() {
        undoAll(walked(260).say("size(4) = 200"), 260, 200);
    }

    static void promise13The200thBehindAnUndo() {
        Play play = walked(200).say("undo() = 1", "size(4) = 199", "move(1, 0) = 1", "size(4) = 200", "move(0, 2) = 1",
                "size(4) = 200", "size(5) = 0");
        // 201 moves stay: the first one can't be undone, the stand behind it is on PEG 1.
        for (int k = 0; k < 200; k++) {
            play.say("undo() = 1");
        }
        play.say("number(false) = 1", "undo() = 0", "number(false) = 1");
    }

    static void promise13AgainstTheLanes() {
        new Play("lane(0, 1, 1, false) = true", "move(0, 1) = 1", "why(1, 0) = 1", "undo() = 1", "number(false) = 0");
    }

    static void promise13PackGoesBackAsItCame() {
        // Discs 0 and 1 join disc 2; what is undone is the move of two, though three are a PACK now.
        new Play("yard(2, 3) = true", "lanes() = 2", "kind(0, 3) = true", "kind(1, 3) = true", "kind(2, 3) = true",
                "stand(3, false) = true", "move(1, 0) = 2", "number(false) = 0", "undo() = 1", "number(false) = 3",
                "redo() = 1", "number(false) = 0", "move(0, 1) = 3", "undo() = 1", "number(false) = 0");
    }

    // ---- promise 14, redo

    static void promise14NothingToDoAgain() {
        new Play("redo() = 0", "number(false) = 0", "size(4) = 0", "size(5) = 0").untroubled("redo() = 0");
        new Play("lanes() = 6", "move(0, 1) = 1", "redo() = 0", "number(false) = 1", "size(4) = 1", "undo() = 1",
                "redo() = 1", "redo() = 0", "number(false) = 1", "size(4) = 1", "size(5) = 0");
    }

    static void promise14LatestUndoneFirst() {
        new Play(ALL_UNDONE).say("redo() = 1", "number(false) = 2", "redo() = 1", "number(false) = 5", "redo() = 1",
                "number(false) = 3", "redo() = 0", "size(4) = 3", "size(5) = 0");
    }

    static void promise14NoneBehindAMove() {
        new Play(Play.BUSY).say("size(5) = 1", "move(2, 0) = 1", "size(5) = 0", "redo() = 0", "number(false) = 3",
                "size(4) = 3", "undo() = 1", "redo() = 1", "redo() = 0");
        new Play("lanes() = 6", "move(0, 1) = 1", "move(1, 2) = 1", "undo() = 1", "undo() = 1", "move(0, 2) = 1",
                "redo() = 0", "undo() = 1", "redo() = 1", "number(false) = 2", "redo() = 0");
    }

    static void promise14StillThereBehindARefusedMove() {
        new Play(Play.BUSY).say("move(0, 1) = none", "move(3, 0) = none", "size(5) = 1", "redo() = 1",
                "number(false) = 3");
    }

    static void promise14All200() {
        Play play = walked(201);
        for (int k = 0; k < 200; k++) {
            play.say("undo() = 1");
        }
        play.say("size(5) = 200", "redo() = 1", "number(false) = 2", "size(4) = 1", "size(5) = 199");
        for (int k = 0; k < 90; k++) {
            play.say("redo() = 1");
        }
        play.say("number(false) = " + 92 % 3, "size(4) = 91", "size(5) = 109");
    }

    static void promise14UpTo200AndNoMore() {
        Play play = walked(201);
        for (int k = 0; k < 50; k++) {
            play.say("undo() = 1");
        }
        play.say("size(4) = 150", "size(5) = 50");
        for (int k = 0; k < 50; k++) {
            play.say("redo() = 1");
        }
        play.say("number(false) = 0", "size(4) = 200", "size(5) = 0", "redo() = 0", "number(false) = 0", "size(4) = 200",
                "undo() = 1", "number(false) = 2");
    }

    // ---- promise 15, moves

    static void promise15None() {
        new Play("moves() = 0", "lane(1, 0, 1, true) = true", "moves() = 0");
        new Play("kind(0, 1) = true", "lane(0, 1, 1, false) = true", "moves() = 0", "lane(0, 1, 1, true) = true",
                "moves() = 1");
    }

    static void promise15MostOfAll() {
        // Discs 0 .. 4 on PEGS 0 .. 4: 4 + 3 + 2 + 1 moves.
        new Play("yard(5, 5) = true", "lanes() = 20", "stand(2930, false) = true", "peg(0) = 0", "peg(1) = 1",
                "peg(2) = 2", "peg(3) = 3", "peg(4) = 4", "moves() = 10");
        new Play("yard(5, 7) = true", "lanes() = 20", "moves() = 4");
        new Play("yard(2, 7) = true", "lanes() = 2", "moves() = 1");
    }

    static void promise15EachReasonTakesOne() {
        pair(0, 0, true).say("moves() = 2");
        pair(0, 2, true).say("moves() = 1");
        pair(1, 0, false).say("moves() = 0");
    }

    static void promise15PacksAreOneMove() {
        new Play("yard(3, 2) = true", "lanes() = 6", "kind(0, 3) = true", "kind(1, 3) = true", "moves() = 2");
    }
}
