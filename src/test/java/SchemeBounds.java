/** The boundary cases of the promises 26 to 33: schemes, and what the yard tells of itself. */
final class SchemeBounds {
    /** SCHEME 0 moves a tower by three PEGS. */
    private static final String[] TOWER = {"scheme() = 0", "call(0, 0, 1, 0, 2, 1, 3, 4) = 1", "single(0, 0, 1) = 2",
        "call(0, 0, 1, 2, 1, 0, 3, 4) = 3"};
    private static final String[] EIGHT = Play.with("scheme() = ?", 0, 1, 2, 3, 4, 5, 6, 7);
    private static final String[] EIGHT_SINGLES =
            Play.rows(new String[] {"scheme() = 0"}, Play.with("single(0, 0, 1) = ?", 1, 2, 3, 4, 5, 6, 7, 8));
    private static final String[] EIGHT_CALLS = Play.rows(new String[] {"scheme() = 0", "scheme() = 1",
        "single(1, 0, 1) = 1"}, Play.with("call(0, 1, 1, 0, 1, 2, 3, 4) = ?", 1, 2, 3, 4, 5, 6, 7, 8));
    private static final Object[] NO_SCHEME_OF_2 = {"least", -1, 2, 3, 7, 8, "most"};
    private static final Object[] NO_ROLE = {"least", -1, 5, 6, 32, 33, "most"};

    private SchemeBounds() {
    }

    private static Play yard(int pegs, int discs) {
        return new Play("yard(" + pegs + ", " + discs + ") = true", "lanes() = " + pegs * (pegs - 1));
    }

    // ---- promise 26, scheme

    static void promise26FirstAndLast() {
        Play play = new Play("size(3) = 0");
        for (int k = 0; k < 8; k++) {
            play.taken("scheme() = " + k).say("size(3) = " + (k + 1));
        }
        play.refused(5, "scheme()").say("size(3) = 8");
    }

    static void promise26TheNinthIsRefused() {
        Play.refusals(5, Play.rows(Play.BUSY, Play.with("scheme() = ?", 2, 3, 4, 5, 6, 7)), "scheme()");
        new Play(EIGHT).say("yard(2, 2) = true").refused(5, "scheme()", "scheme()").say("size(3) = 8");
    }

    static void promise26WithoutSteps() {
        Play play = new Play();
        for (int k = 0; k < 8; k++) {
            play.say("scheme() = " + k, "count(" + k + ", 60) = 0", "tried(" + k + ", 1, 0, 1, 2, 3, 4) = -3",
                    "single(" + k + ", 0, 1) = 1");
        }
    }

    // ---- promise 27, single

    static void promise27NoSuchScheme() {
        Play.refusals(1, Play.BUSY, Play.with("single(?, 0, 1)", NO_SCHEME_OF_2));
        new Play().refused(1, "single(0, 0, 1)");
        new Play(EIGHT).taken("single(7, 0, 1) = 1").refused(1, "single(8, 0, 1)");
    }

    static void promise27OtherRolesAreRefused() {
        Play.refusals(1, Play.BUSY, Play.rows(Play.with("single(1, ?, 0)", NO_ROLE), Play.with("single(1, 0, ?)", NO_ROLE),
                Play.with("single(1, ?, ?)", NO_ROLE)));
    }

    static void promise27RolesThatAreAlikeAreRefused() {
        Play.refusals(1, Play.BUSY, Play.with("single(1, ?, ?)", 0, 1, 2, 3, 4));
    }

    static void promise27FirstAndLastRole() {
        // Roles are 0 .. 4 in a yard of two PEGS, too.
        new Play("yard(2, 1) = true", "scheme() = 0").taken("single(0, 0, 4) = 1", "single(0, 4, 0) = 2",
                "single(0, 3, 4) = 3").say("count(0, 1) = 3");
    }

    static void promise27HowManyItHas() {
        Play play = new Play("scheme() = 0", "scheme() = 1");
        for (int k = 1; k <= 8; k++) {
            play.taken("single(0, 0, 1) = " + k).say("count(0, 1) = " + k, "count(1, 1) = 0");
        }
    }

    static void promise27TheNinthStepIsRefused() {
        Play.refusals(5, EIGHT_SINGLES, "single(0, 0, 1)", "single(0, 4, 3)");
        Play.refusals(5, EIGHT_CALLS, "single(0, 0, 1)");
        new Play(EIGHT_SINGLES).refused(5, "single(0, 0, 1)").say("scheme() = 1").taken("single(1, 0, 1) = 1");
    }

    static void promise27TheNinthStepTouchesNoOtherScheme() {
        String[] next = {"lanes() = 6", "scheme() = 1", "single(1, 0, 2) = 1", "single(1, 2, 1) = 2"};
        new Play(EIGHT_SINGLES).say(next).refused(5, "single(0, 3, 4)", "call(0, 0, 1, 4, 3, 2, 1, 0)")
                .say("tried(1, 1, 0, 1, 2, 3, 4) = 2", "count(1, 1) = 2", "count(0, 1) = 8");
    }

    static void promise27OtherNumbersAheadOfTheNinth() {
        Play.refusals(1, EIGHT_SINGLES, "single(0, 0, 0)", "single(0, 5, 0)", "single(0, 0, -1)", "single(1, 0, 1)");
    }

    // ---- promise 28, call

    static void promise28NoSuchScheme() {
        Play.refusals(1, Play.BUSY, Play.rows(Play.with("call(?, 0, 1, 0, 1, 2, 3, 4)", NO_SCHEME_OF_2),
                Play.with("call(0, ?, 1, 0, 1, 2, 3, 4)", NO_SCHEME_OF_2),
                Play.with("call(?, ?, 1, 0, 1, 2, 3, 4)", NO_SCHEME_OF_2)));
        new Play().refused(1, "call(0, 0, 1, 0, 1, 2, 3, 4)");
        new Play(EIGHT).taken("call(7, 7, 1, 0, 1, 2, 3, 4) = 1", "call(0, 7, 1, 0, 1, 2, 3, 4) = 1",
                "call(7, 0, 1, 0, 1, 2, 3, 4) = 2").refused(1, "call(8, 0, 1, 0, 1, 2, 3, 4)",
                "call(0, 8, 1, 0, 1, 2, 3, 4)");
    }

    static void promise28LeastAndMostLess() {
        Play.refusals(1, Play.BUSY, Play.with("call(1, 0, ?, 0, 1, 2, 3, 4)", "least", -1, 0, 5, 6, "most"));
        Play play = new Play("scheme() = 0", "scheme() = 1", "single(1, 0, 1) = 1");
        for (int less = 1; less <= 4; less++) {
            play.taken("call(0, 1, " + less + ", 0, 1, 2, 3, 4) = " + less);
        }
        // At HEIGHT h the CALLS less by 1 .. h - 1 are above 0.
        play.say("count(0, 0) = 0", "count(0, 1) = 0", "count(0, 2) = 1", "count(0, 3) = 2", "count(0, 4) = 3",
                "count(0, 5) = 4", "count(0, 6) = 4");
    }

    static void promise28OtherRolesAreRefused() {
        String[] places = {"call(1, 0, 1, ?, 1, 2, 3, 4)", "call(1, 0, 1, 0, ?, 2, 3, 4)", "call(1, 0, 1, 0, 1, ?, 3, 4)",
            "call(1, 0, 1, 0, 1, 2, ?, 4)", "call(1, 0, 1, 0, 1, 2, 3, ?)"};
        for (String place : places) {
            Play.refusals(1, Play.BUSY, Play.with(place, NO_ROLE));
        }
        Play.refusals(1, Play.BUSY, Play.with("call(1, 0, 1, ?, ?, ?, ?, ?)", "least", -1, 5, "most"));
    }

    static void promise28RolesThatAreAlikeAreRefused() {
        for (int p = 0; p < 5; p++) {
            for (int q = 0; q < 5; q++) {
                if (p != q) {
                    int[] roles = {0, 1, 2, 3, 4};
                    roles[p] = roles[q];
                    Play.refusals(1, Play.BUSY, "call(1, 0, 1, " + roles[0] + ", " + roles[1] + ", " + roles[2] + ", "
                            + roles[3] + ", " + roles[4] + ")");
                }
            }
        }
    }

    static void promise28AllFiveRolesCountInAYardOfTwoPegs() {
        new Play("yard(2, 1) = true", "scheme() = 0").taken("call(0, 0, 1, 4, 3, 2, 1, 0) = 1")
                .refused(1, "call(0, 0, 1, 0, 1, 9, 9, 9)", "call(0, 0, 1, 0, 1, 2, 3, 3)");
    }

    static void promise28HowManyItHas() {
        Play play = new Play("scheme() = 0");
        for (int k = 1; k <= 8; k++) {
            play.taken("call(0, 0, 1, 0, 1, 2, 3, 4) = " + k);
        }
        play.refused(5, "call(0, 0, 1, 0, 1, 2, 3, 4)");
    }

    static void promise28TheNinthStepIsRefused() {
        Play.refusals(5, EIGHT_CALLS, "call(0, 0, 1, 0, 1, 2, 3, 4)", "call(0, 1, 4, 4, 3, 2, 1, 0)");
        Play.refusals(5, EIGHT_SINGLES, "call(0, 0, 1, 0, 1, 2, 3, 4)");
        new Play(EIGHT_CALLS).refused(5, "call(0, 1, 1, 0, 1, 2, 3, 4)").taken("call(1, 0, 1, 0, 1, 2, 3, 4) = 2");
    }

    static void promise28OtherNumbersAheadOfTheNinth() {
        Play.refusals(1, EIGHT_CALLS, "call(0, 2, 1, 0, 1, 2, 3, 4)", "call(0, 1, 0, 0, 1, 2, 3, 4)",
                "call(0, 1, 5, 0, 1, 2, 3, 4)", "call(0, 1, 1, 0, 0, 2, 3, 4)", "call(0, 1, 1, 0, 1, 2, 3, 5)");
    }

    // ---- promise 29, count

    static void promise29OtherNumbersAreRefused() {
        Play.refusals(1, Play.BUSY, Play.rows(Play.with("count(?, 1)", NO_SCHEME_OF_2),
                Play.with("count(0, ?)", "least", -1, 61, 62, "most"), Play.with("count(?, ?)", "least", -1, 61, "most")));
        new Play().refused(1, "count(0, 0)");
        new Play(EIGHT).taken("count(7, 1) = 0").refused(1, "count(8, 1)");
    }

    static void promise29LeastAndGreatestHeight() {
        new Play(TOWER).taken("count(0, 0) = 0", "count(0, 1) = 1", "count(0, 59) = 576460752303423487",
                "count(0, 60) = 1000000000000000000", "count(0, 0) = 0", "count(0, 2) = 3");
    }

    static void promise29WithoutSteps() {
        new Play("scheme() = 0").taken("count(0, 0) = 0", "count(0, 1) = 0", "count(0, 60) = 0")
                .say("call(0, 0, 1, 0, 1, 2, 3, 4) = 1").taken("count(0, 60) = 0");
    }

    static void promise29HeightsBelow0() {
        for (int less = 1; less <= 4; less++) {
            Play play = new Play("scheme() = 0", "single(0, 0, 1) = 1", "call(0, 0, " + less + ", 0, 1, 2, 3, 4) = 2");
            for (int height = 0; height <= 9; height++) {
                play.say("count(0, " + height + ") = " + (height + less - 1) / less);
            }
        }
    }

    static void promise29GreatestCount() {
        // SCHEME 0: 1, 1, 11, 11, 111, 111, .. SCHEME 2 at 37: 9 times 18 ones. 3, 4: one and two more.
        Play play = new Play("scheme() = 0", "scheme() = 1", "scheme() = 2", "scheme() = 3", "scheme() = 4", "scheme() = 5",
                "single(0, 0, 1) = 1").say(Play.with("call(0, 1, 1, 0, 1, 2, 3, 4) = ?", 2, 3, 4, 5, 6))
                .say(Play.with("call(1, 0, 1, 0, 1, 2, 3, 4) = ?", 1, 2))
                .say(Play.with("call(2, 0, 1, 0, 1, 2, 3, 4) = ?", 1, 2, 3, 4, 5, 6, 7))
                .say("call(2, 1, 1, 0, 1, 2, 3, 4) = 8", "single(3, 0, 1) = 1", "call(3, 2, 1, 0, 1, 2, 3, 4) = 2",
                        "single(4, 0, 1) = 1", "single(4, 1, 0) = 2", "call(4, 2, 1, 0, 1, 2, 3, 4) = 3")
                .say(Play.with("call(5, 4, 1, 0, 1, 2, 3, 4) = ?", 1, 2, 3, 4, 5, 6, 7, 8));
        play.taken("count(0, 5) = 111", "count(0, 36) = 111111111111111111", "count(2, 37) = 999999999999999999",
                "count(3, 38) = 1000000000000000000", "count(4, 38) = 1000000000000000000",
                "count(2, 39) = 1000000000000000000", "count(5, 39) = 1000000000000000000",
                "count(5, 60) = 1000000000000000000", "count(4, 60) = 1000000000000000000");
    }

    static void promise29WhateverTheYard() {
        new Play(TOWER).say("yard(2, 1) = true").taken("count(0, 7) = 127");
    }

    // ---- promise 30, tried

    static void promise30LeastAndGreatestHeight() {
        for (int discs = 1; discs <= 7; discs++) {
            yard(3, discs).say(TOWER).taken("tried(0, 1, 0, 1, 2, 3, 4) = 1",
                    "tried(0, " + discs + ", 0, 1, 2, 3, 4) = " + ((1 << discs) - 1))
                    .refused(1, "tried(0, 0, 0, 1, 2, 3, 4)", "tried(0, " + (discs + 1) + ", 0, 1, 2, 3, 4)");
        }
    }

    static void promise30OtherNumbersAreRefused() {
        Play.refusals(1, Play.BUSY, Play.rows(Play.with("tried(?, 1, 0, 1, 2, 3, 4)", NO_SCHEME_OF_2),
                Play.with("tried(0, ?, 0, 1, 2, 3, 4)", "least", -1, 0, 4, 5, 60, "most")));
        new Play().refused(1, "tried(0, 1, 0, 1, 2, 3, 4)");
    }

    static void promise30OtherPegsAreRefused() {
        Object[] wrong = {"least", -1, 3, 4, 32, 33, 34, "most"};
        Play.refusals(1, Play.BUSY, Play.rows(Play.with("tried(0, 1, ?, 1, 2, 3, 4)", wrong),
                Play.with("tried(0, 1, 0, ?, 2, 3, 4)", wrong), Play.with("tried(0, 1, 0, 1, ?, 3, 4)", wrong),
                new String[] {"tried(0, 1, 0, 0, 2, 3, 4)", "tried(0, 1, 0, 1, 1, 3, 4)", "tried(0, 1, 2, 1, 2, 3, 4)",
                    "tried(0, 1, 0, 0, 0, 1, 2)"}));
    }

    static void promise30RolesBeyondThePegsAreNoMatter() {
        for (Object word : new Object[] {"least", -1, 0, 1, 9, "most"}) {
            yard(2, 1).say(TOWER).taken("tried(0, 1, 1, 0, " + word + ", " + word + ", " + word + ") = 1");
            yard(3, 2).say(TOWER).taken("tried(0, 2, 1, 0, 2, " + word + ", " + word + ") = 3");
            yard(4, 2).say(TOWER).taken("tried(0, 2, 1, 0, 3, 2, " + word + ") = 3");
        }
        yard(4, 2).say(TOWER).refused(1, "tried(0, 2, 1, 0, 2, 2, 3)", "tried(0, 2, 1, 0, 2, 4, 3)");
        yard(5, 2).say(TOWER).taken("tried(0, 2, 4, 3, 2, 1, 0) = 3").refused(1, "tried(0, 2, 4, 3, 2, 1, 1)",
                "tried(0, 2, 4, 3, 2, 1, 5)", "tried(0, 2, 4, 3, 2, 1, least)");
    }

    static void promise30RoleThatIsNoPeg() {
        for (int pegs = 2; pegs <= 4; pegs++) {
            for (int role = 2; role <= 4; role++) {
                int want = role < pegs ? -3 : -2;
                yard(pegs, 1).say("scheme() = 0", "single(0, 0, " + role + ") = 1")
                        .taken("tried(0, 1, 0, 1, 2, 3, 4) = " + want).say("failed() = " + (want == -2 ? 0 : -1));
                yard(pegs, 1).say("scheme() = 0", "single(0, " + role + ", 0) = 1")
                        .taken("tried(0, 1, 0, 1, 2, 3, 4) = -2").say("failed() = 0");
            }
        }
    }

    static void promise30RoleThatIsNoPegThoughAPegIsToldForIt() {
        for (int pegs = 2; pegs <= 4; pegs++) {
            String names = pegs == 2 ? "0, 1, 1, 1, 1" : pegs == 3 ? "0, 1, 2, 1, 1" : "0, 1, 2, 3, 1";
            yard(pegs, 1).say("scheme() = 0", "single(0, 0, " + pegs + ") = 1").taken("tried(0, 1, " + names + ") = -2");
            yard(pegs, 1).say("scheme() = 0", "single(0, 0, 4) = 1").taken("tried(0, 1, " + names + ") = -2");
            String other = names.replace("0", "x").replace("1", "0").replace("x", "1");
            yard(pegs, 1).say("scheme() = 0", "single(0, " + pegs + ", 1) = 1")
                    .taken("tried(0, 1, " + other + ") = -2").say("failed() = 0");
        }
    }

    static void promise30RoleThatIsNoPegByACall() {
        // Role 0 of the SCHEME that is called is role 3 of the caller.
        String[] rows = {"scheme() = 0", "scheme() = 1", "single(0, 0, 1) = 1", "call(1, 0, 1, 3, 1, 2, 0, 4) = 1"};
        yard(3, 2).say(rows).taken("tried(1, 2, 0, 1, 2, 3, 4) = -2").say("failed() = 0")
                .taken("tried(1, 1, 0, 1, 2, 3, 4) = -3").say("failed() = none");
    }

    static void promise30AnotherDiscOnTop() {
        String[] rows = {"scheme() = 0", "single(0, 0, 1) = 1"};
        yard(3, 2).say(rows).taken("tried(0, 2, 0, 1, 2, 3, 4) = -2").say("failed() = 0")
                .taken("tried(0, 1, 0, 1, 2, 3, 4) = 1");
        // None on top at all.
        yard(3, 1).say("scheme() = 0", "single(0, 1, 0) = 1").taken("tried(0, 1, 0, 1, 2, 3, 4) = -2");
    }

    static void promise30APackOfMore() {
        String[] rows = {"scheme() = 0", "single(0, 0, 1) = 1", "kind(0, 3) = true"};
        yard(3, 2).say(rows).taken("tried(0, 1, 0, 1, 2, 3, 4) = 1").say("kind(1, 3) = true")
                .taken("tried(0, 1, 0, 1, 2, 3, 4) = -2").say("failed() = 0");
    }

    static void promise30EachWhy() {
        String[] rows = {"scheme() = 0", "single(0, 0, 1) = 1"};
        new Play(rows).taken("tried(0, 1, 0, 1, 2, 3, 4) = -2").say("lane(0, 1, 1, false) = true")
                .taken("tried(0, 1, 0, 1, 2, 3, 4) = 1").say("kind(0, 1) = true")
                .taken("tried(0, 1, 0, 1, 2, 3, 4) = -2").say("lane(0, 1, 1, true) = true")
                .taken("tried(0, 1, 0, 1, 2, 3, 4) = 1", "tried(0, 1, 1, 0, 2, 3, 4) = -2");
        // Disc 0 goes from role 0 to 1, then disc 1 after it, onto the lesser one.
        String[] lesser = {"scheme() = 0", "scheme() = 1", "single(0, 0, 1) = 1", "call(1, 0, 1, 0, 1, 2, 3, 4) = 1",
            "single(1, 0, 1) = 2"};
        yard(3, 2).say(lesser).taken("tried(1, 2, 0, 1, 2, 3, 4) = -2").say("failed() = 1");
        // A PLAIN one comes back onto a RINGED one that it was free to leave.
        yard(3, 2).say("stand(1, false) = true", "stand(1, true) = true", "kind(1, 2) = true").say(TOWER)
                .taken("tried(0, 2, 0, 1, 2, 3, 4) = -2").say("failed() = 2").taken("tried(0, 1, 0, 1, 2, 3, 4) = 1");
    }

    static void promise30EndsElsewhere() {
        yard(3, 2).say("scheme() = 0").taken("tried(0, 1, 0, 1, 2, 3, 4) = -3", "tried(0, 2, 0, 1, 2, 3, 4) = -3")
                .say("single(0, 0, 2) = 1").taken("tried(0, 1, 0, 1, 2, 3, 4) = -3").say("single(0, 2, 1) = 2")
                .taken("tried(0, 1, 0, 1, 2, 3, 4) = 2").say("single(0, 1, 0) = 3")
                .taken("tried(0, 1, 0, 1, 2, 3, 4) = -3");
        // The lesser one of two ends elsewhere; the greater one of two does.
        yard(3, 2).say("scheme() = 0", "scheme() = 1", "single(1, 0, 1) = 1", "call(0, 1, 1, 0, 2, 1, 3, 4) = 1",
                "single(0, 0, 1) = 2").taken("tried(0, 2, 0, 1, 2, 3, 4) = -3");
        yard(3, 2).say("scheme() = 0", "scheme() = 1", "single(1, 0, 1) = 1", "call(0, 1, 1, 0, 1, 2, 3, 4) = 1",
                "single(0, 0, 2) = 2").taken("tried(0, 2, 0, 1, 2, 3, 4) = -3");
    }

    static void promise30OthersLieBelow() {
        // Discs 2 .. 6 stay on role 0's PEG, below the pile, and are no part of it.
        yard(3, 7).say(TOWER).taken("tried(0, 2, 2, 0, 1, 3, 4) = 3");
        for (String names : new String[] {"0, 1, 2", "0, 2, 1", "1, 0, 2", "1, 2, 0", "2, 0, 1", "2, 1, 0"}) {
            // Disc 2 is right below disc 1, so that both would go.
            yard(3, 7).say("kind(1, 3) = true", "kind(2, 3) = true").say(TOWER).taken("tried(0, 1, " + names + ", 3, 4) = 1",
                    "tried(0, 2, " + names + ", 3, 4) = -2").say("failed() = 1");
            // Nothing comes to lie on the RINGED disc 2, whatever the PEGS.
            yard(3, 3).say("stand(4, false) = true", "stand(4, true) = true", "kind(2, 2) = true").say(TOWER)
                    .taken("tried(0, 2, " + names + ", 3, 4) = 3");
        }
    }

    static void promise30StandStays() {
        for (String row : new String[] {"tried(0, 1, 0, 1, 2, 3, 4) = 1", "tried(0, 3, 0, 1, 2, 3, 4) = -2",
            "tried(1, 2, 0, 1, 2, 3, 4) = -2", "tried(0, 1, 1, 2, 0, 9, 9) = 1"}) {
            new Play(Play.BUSY).kept(row);
        }
        new Play(Play.BUSY).say("scheme() = 2").kept("tried(2, 3, 0, 1, 2, 3, 4) = -3");
        manyCalls(8, new String[0]).kept("tried(3, 6, 0, 1, 2, 3, 4) = -4");
    }

    /**
     * SCHEME 3 at HEIGHT 6 begins 1 + 4,681 + 4 * 73 + 2 * 9 + 1 CALLS, 4,993 in all, and then the
     * STEPS of SCHEME 2 at 5: CALLS of SCHEME 1, which has no STEPS, and those that are told.
     */
    private static Play manyCalls(int empties, String[] behind) {
        Play play = yard(3, 7).say(Play.with("scheme() = ?", 0, 1, 2, 3))
                .say(Play.with("call(0, 0, 1, 0, 1, 2, 3, 4) = ?", 1, 2, 3, 4, 5, 6, 7, 8));
        for (int k = 1; k <= empties; k++) {
            play.say("call(2, 1, 1, 0, 1, 2, 3, 4) = " + k);
        }
        return play.say(behind).say("call(3, 0, 1, 0, 1, 2, 3, 4) = 1")
                .say(Play.with("call(3, 0, 3, 0, 1, 2, 3, 4) = ?", 2, 3, 4, 5))
                .say(Play.with("call(3, 0, 4, 0, 1, 2, 3, 4) = ?", 6, 7)).say("call(3, 2, 1, 0, 1, 2, 3, 4) = 8");
    }

    static void promise30The5000thCall() {
        manyCalls(7, new String[0]).taken("tried(3, 6, 0, 1, 2, 3, 4) = -3").say("failed() = none");
    }

    static void promise30The5001stCall() {
        manyCalls(8, new String[0]).taken("tried(3, 6, 0, 1, 2, 3, 4) = -4").say("failed() = none");
    }

    static void promise30The5000thCannotBe() {
        manyCalls(6, new String[] {"single(2, 0, 1) = 7"}).taken("tried(3, 6, 0, 1, 2, 3, 4) = -2")
                .say("failed() = 0");
    }

    static void promise30The5001stCannotBe() {
        manyCalls(7, new String[] {"single(2, 0, 1) = 8"}).taken("tried(3, 6, 0, 1, 2, 3, 4) = -4")
                .say("failed() = none");
        // A role that is no PEG is asked for behind the bound, too.
        manyCalls(7, new String[] {"single(2, 4, 3) = 8"}).taken("tried(3, 6, 0, 1, 2, 3, 4) = -4")
                .say("failed() = none");
    }

    static void promise30CallsAt0AndBelowAreNotCounted() {
        // The last CALL is at HEIGHT 1, so that SCHEME 2's STEPS there, CALLS at 0 and -3, are not counted.
        manyCalls(6, new String[] {"call(2, 2, 4, 0, 1, 2, 3, 4) = 7"}).taken("tried(3, 6, 0, 1, 2, 3, 4) = -3");
        manyCalls(7, new String[] {"call(2, 2, 4, 0, 1, 2, 3, 4) = 8"}).taken("tried(3, 6, 0, 1, 2, 3, 4) = -4");
    }

    static void promise30CannotBeAheadOfTheBound() {
        // The first MOVE can't be, though 4,681 CALLS and more would come behind it.
        yard(3, 7).say("scheme() = 0", "single(0, 1, 0) = 1")
                .say(Play.with("call(0, 0, 1, 0, 1, 2, 3, 4) = ?", 2, 3, 4, 5, 6, 7, 8))
                .taken("tried(0, 7, 0, 1, 2, 3, 4) = -2").say("failed() = 0");
    }

    /** A tower of 7 (127 MOVES, 127 CALLS) behind 4,681 CALLS and 1 + 8 * 8 CALLS: 5,000, or those told more. */
    private static Play longTower(int more) {
        Play play = yard(3, 7).say(TOWER).say(Play.with("scheme() = ?", 1, 2, 3, 4, 5))
                .say(Play.with("call(1, 1, 1, 0, 1, 2, 3, 4) = ?", 1, 2, 3, 4, 5, 6, 7, 8))
                .say(Play.with("call(3, 2, 1, 0, 1, 2, 3, 4) = ?", 1, 2, 3, 4, 5, 6, 7))
                .say(Play.with("call(4, 3, 1, 0, 1, 2, 3, 4) = ?", 1, 2, 3, 4, 5, 6, 7, 8))
                .say("call(5, 1, 2, 0, 1, 2, 3, 4) = 1", "call(5, 4, 1, 0, 1, 2, 3, 4) = 2");
        for (int k = 0; k < more; k++) {
            play.say("call(5, 2, 1, 0, 1, 2, 3, 4) = " + (3 + k));
        }
        return play.say("call(5, 0, 1, 0, 2, 1, 3, 4) = " + (3 + more), "single(5, 0, 1) = " + (4 + more),
                "call(5, 0, 1, 2, 1, 0, 3, 4) = " + (5 + more));
    }

    static void promise30The5000thIsTheLastMove() {
        longTower(0).taken("tried(5, 7, 0, 1, 2, 3, 4) = 127").say("failed() = none");
    }

    static void promise30The5001stWouldBeTheLastMove() {
        longTower(1).taken("tried(5, 7, 0, 1, 2, 3, 4) = -4").say("failed() = none");
    }

    static void promise30EachTryCountsAnew() {
        longTower(0).taken("tried(5, 7, 0, 1, 2, 3, 4) = 127", "tried(5, 7, 2, 1, 0, 3, 4) = 127",
                "tried(5, 7, 1, 0, 2, 3, 4) = 127");
    }

    static void promise30BeyondTooManyStands() {
        yard(5, 7).say(TOWER).taken("tried(0, 7, 4, 3, 2, 1, 0) = 127");
    }

    // ---- promise 31, failed

    private static final String CANNOT = "tried(0, 3, 0, 1, 2, 3, 4) = -2";

    static void promise31NoneAheadOfATry() {
        new Play("failed() = none");
    }

    static void promise31FromZeroOn() {
        new Play("scheme() = 0", "single(0, 0, 1) = 1", "tried(0, 1, 0, 1, 2, 3, 4) = -2", "failed() = 0");
        for (int k = 0; k < 8; k++) {
            Play play = yard(2, 1).say("scheme() = 0");
            for (int step = 0; step < k; step++) {
                play.say("single(0, " + step % 2 + ", " + (1 - step % 2) + ") = " + (step + 1));
            }
            // The PEG that disc 0 is not on.
            play.say("single(0, " + (1 - k % 2) + ", " + k % 2 + ") = " + (k + 1), "tried(0, 1, 0, 1, 2, 3, 4) = -2",
                    "failed() = " + k);
        }
    }

    static void promise31BehindAllMovesOfATower() {
        yard(3, 7).say(TOWER).say("single(0, 0, 1) = 4", "tried(0, 7, 0, 1, 2, 3, 4) = -2", "failed() = 1",
                "scheme() = 1", "call(1, 1, 1, 0, 2, 1, 3, 4) = 1", "single(1, 0, 1) = 2",
                "call(1, 1, 1, 2, 1, 0, 3, 4) = 3", "scheme() = 2", "call(2, 1, 1, 0, 1, 2, 3, 4) = 1",
                "single(2, 2, 0) = 2", "tried(2, 7, 0, 1, 2, 3, 4) = -2", "failed() = 63");
    }

    static void promise31NoneBehindATryThatEndsWell() {
        new Play(Play.BUSY).say(CANNOT, "failed() = 1", "tried(0, 1, 0, 1, 2, 3, 4) = 1", "failed() = none");
    }

    static void promise31NoneBehindATryThatEndsElsewhere() {
        new Play(Play.BUSY).say("scheme() = 2", CANNOT, "failed() = 1", "tried(2, 1, 0, 1, 2, 3, 4) = -3",
                "failed() = none");
    }

    static void promise31NoneBehindATryThatIsTooLong() {
        manyCalls(8, new String[0]).say("single(1, 1, 0) = 1", "tried(1, 1, 0, 1, 2, 3, 4) = -2", "failed() = 0",
                "tried(3, 7, 0, 1, 2, 3, 4) = -4", "failed() = none");
    }

    static void promise31NoneBehindARefusedTry() {
        for (String row : new String[] {"tried(2, 3, 0, 1, 2, 3, 4) = none", "tried(0, 0, 0, 1, 2, 3, 4) = none",
            "tried(0, 4, 0, 1, 2, 3, 4) = none", "tried(0, 3, 0, 1, 1, 3, 4) = none"}) {
            new Play(Play.BUSY).say(CANNOT, "failed() = 1", row, "failed() = none");
        }
    }

    static void promise31StaysBehindOtherCalls() {
        new Play(Play.BUSY).say("failed() = 1", "failed() = 1", "undo() = 1", "count(0, 3) = 7", "fewest()", "plan()",
                "lanes() = 6", "scheme() = 2", "yard(0, 0) = false", "yard(2, 1) = true", "failed() = 1");
    }

    // ---- promise 32, trouble

    static void promise32NoneAtFirst() {
        new Play("trouble() = 0", "trouble() = 0");
    }

    static void promise32EachNumber() {
        new Play().refused(1, "yard(1, 1)", "kind(1, 0)", "lane(0, 0, 1, true)", "stand(3, false)", "move(0, 3)",
                "joined(4)", "rename(0, 0, 1, 2, 3)", "single(0, 0, 1)", "call(0, 0, 1, 0, 1, 2, 3, 4)", "count(0, 0)",
                "tried(0, 1, 0, 1, 2, 3, 4)");
        new Play("yard(5, 7) = true").refused(2, "fewest()", "plan()", "ways()", "reach()", "far()", "farthest()",
                "joined(0)");
        new Play("yard(2, 2) = true").refused(3, "kind(1, 2)").say("kind(0, 2) = true", "kind(1, 2) = true",
                "stand(1, true) = true", "stand(1, false) = true", "kind(0, 1) = true").refused(3, "stand(0, false)",
                "stand(3, true)");
        new Play().refused(4, "move(0, 1)");
        new Play(EIGHT).refused(5, "scheme()");
        new Play(EIGHT_SINGLES).refused(5, "single(0, 0, 1)", "call(0, 0, 1, 0, 1, 2, 3, 4)");
    }

    static void promise32ZeroBehindEachThatWasNotRefused() {
        new Play().taken("yard(3, 2) = true", "kind(0, 1) = true", "lane(0, 1, 1, true) = true", "stand(1, true) = true",
                "stand(0, false) = true", "fewest() = 1", "plan() = 1", "ways() = 1", "reach() = 2", "far() = 1",
                "farthest() = 1", "joined(0) = 9", "move(0, 1) = 1", "rename(0, 1, 2, 3, 4) = true", "scheme() = 0",
                "single(0, 0, 1) = 1", "call(0, 0, 1, 0, 1, 2, 3, 4) = 2", "count(0, 1) = 1",
                "tried(0, 1, 0, 1, 2, 3, 4) = 1");
    }

    static void promise32ZeroBehindAnswersThatAreNoRefusal() {
        new Play("stand(1, true) = true", "scheme() = 0").taken("fewest() = -2", "plan() = -2", "ways() = 0",
                "tried(0, 1, 0, 1, 2, 3, 4) = -3").say("single(0, 0, 1) = 1").taken("tried(0, 1, 0, 1, 2, 3, 4) = -2");
        manyCalls(8, new String[0]).taken("tried(3, 6, 0, 1, 2, 3, 4) = -4");
    }

    static void promise32StaysBehindCallsThatTellNone() {
        new Play("lane(0, 1, 1, true) = true", "move(0, 1) = 1").untroubled("cost(0, 1) = 1", "cost(3, 0) = none",
                "number(false) = 1", "number(true) = 0", "peg(0) = 1", "peg(1) = none", "disc(1, 0) = 0",
                "disc(1, 1) = none", "disc(3, 0) = none", "why(0, 0) = 1", "why(3, 0) = none", "moves() = 0",
                "planned(0) = none", "failed() = none", "size(0) = 3", "size(8) = none").untroubled("undo()", "redo()",
                "lanes() = 6", "about() = 6");
        new Play().refused(1, "yard(0, 0)").say("trouble() = 1", "trouble() = 1");
    }

    // ---- promise 33, size

    static void promise33NoneForOthers() {
        new Play(Play.BUSY).say(Play.with("size(?) = none", "least", -1, 8, 9, "most"));
    }

    static void promise33Empty() {
        new Play("size(0) = 3", "size(1) = 1").say(Play.with("size(?) = 0", 2, 3, 4, 5, 6, 7));
    }

    static void promise33Full() {
        Play play = yard(5, 7).say(EIGHT);
        for (int disc = 0; disc < 7; disc++) {
            play.say("kind(" + disc + ", 3) = true");
        }
        play.say("size(0) = 5", "size(1) = 7", "size(2) = 20", "size(3) = 8", "size(7) = 16383");
    }

    static void promise33OfEach() {
        new Play(Play.BUSY).say("size(0) = 3", "size(1) = 3", "size(2) = 5", "size(3) = 2", "size(4) = 2", "size(5) = 1",
                "size(6) = 4", "size(7) = 24");
    }

    static void promise33MovesUndoneAndDoneAgain() {
        Play play = new Play("lanes() = 6");
        for (int k = 0; k < 201; k++) {
            play.say("move(" + k % 3 + ", " + (k + 1) % 3 + ") = 1");
            if (k >= 198) {
                play.say("size(4) = " + Math.min(k + 1, 200), "size(5) = 0");
            }
        }
        for (int k = 1; k <= 200; k++) {
            play.say("undo() = 1");
        }
        play.say("size(4) = 0", "size(5) = 200", "redo() = 1", "size(4) = 1", "size(5) = 199", "move(2, 1) = 1",
                "size(4) = 2", "size(5) = 0");
    }

    static void promise33KindOfEachDisc() {
        int power = 1;
        for (int disc = 0; disc < 7; disc++) {
            for (int kind : new int[] {1, 3, 0}) {
                new Play("yard(2, 7) = true", "kind(" + disc + ", " + kind + ") = true", "size(7) = " + kind * power);
            }
            power *= 4;
        }
    }
}
