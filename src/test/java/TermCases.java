import java.util.ArrayList;
import java.util.Arrays;
import java.util.List;

/** What the document tells ahead of its promises: the number of calls, the constant, the terms. */
final class TermCases {
    private TermCases() {
    }

    static void all512Calls() {
        Play play = new Play("lanes() = 6");
        for (int k = 0; k < 170; k++) {
            play.say("move(" + k % 3 + ", " + (k + 1) % 3 + ") = 1", "number(false) = " + (k + 1) % 3,
                    "size(4) = " + (k + 1));
        }
        play.say("undo() = 1");
    }

    static void noneIsLessByOneThan0() {
        Check.due("NONE", DiscYard.NONE, -1);
        new Play("cost(3, 0) = -1", "peg(1) = -1", "move(0, 1) = -1", "scheme() = 0", "size(8) = -1");
    }

    // ---- II

    /** Of seven discs one on PEG 1 and one on PEG 2, the others on PEG 0. */
    static void lesserOnesOntoGreaterOnesAlone() {
        for (int upper = 0; upper < 7; upper++) {
            for (int lower = 0; lower < 7; lower++) {
                if (upper != lower) {
                    int number = power(3, upper) + 2 * power(3, lower);
                    new Play("yard(3, 7) = true", "lanes() = 6", "stand(" + number + ", false) = true",
                            "disc(1, 0) = " + upper, "disc(2, 0) = " + lower, "why(1, 2) = " + (upper < lower ? 0 : 4));
                }
            }
        }
    }

    static void numberInEachYard() {
        for (int pegs = 2; pegs <= 5; pegs++) {
            for (int discs = 1; discs <= 7; discs++) {
                Play play = new Play("yard(" + pegs + ", " + discs + ") = true", "lanes()");
                int sum = 0;
                for (int disc = 0; disc < discs; disc++) {
                    sum += (disc + 1) % pegs * power(pegs, disc);
                }
                play.say("stand(" + sum + ", false) = true", "number(false) = " + sum);
                for (int disc = 0; disc < discs; disc++) {
                    play.say("peg(" + disc + ") = " + (disc + 1) % pegs);
                }
                play.say("move(1, 0) = 1", "number(false) = " + (sum - 1));
            }
        }
    }

    static void theTopOneIsTheLeast() {
        new Play("yard(2, 3) = true", "lanes() = 2", "disc(0, 0) = 2", "disc(0, 1) = 1", "disc(0, 2) = 0",
                "move(0, 1) = 1", "peg(0) = 1", "peg(1) = 0", "peg(2) = 0", "disc(0, 1) = 1", "disc(0, 2) = none");
    }

    static void plainOnesGoAlongAllLanesOntoAllButRinged() {
        for (int kind = 0; kind < 4; kind++) {
            new Play("yard(2, 2) = true", "stand(1, false) = true", "stand(1, true) = true",
                    "kind(1, " + kind + ") = true", "lane(1, 0, 1, false) = true",
                    "why(1, 0) = " + (kind == 2 ? 5 : 0));
        }
    }

    static void stickyOnesAreNotHeavy() {
        new Play("yard(2, 3) = true", "kind(0, 3) = true", "kind(1, 3) = true", "lane(0, 1, 1, false) = true",
                "why(0, 1) = 0", "move(0, 1) = 2", "peg(0) = 1", "peg(1) = 1", "peg(2) = 0");
    }

    /** Disc 0 is PLAIN: the discs below it are no part of what goes. */
    static void packsBeginAtTheTop() {
        new Play("yard(2, 3) = true", "kind(1, 3) = true", "kind(2, 3) = true", "lanes() = 2", "move(0, 1) = 1",
                "number(false) = 1");
    }

    // ---- IV

    static void rowsAreGoneThroughFromStandToStand() {
        Play play = new Play("yard(3, 3) = true", "lane(0, 1, 2, true) = true", "lane(1, 2, 3, true) = true",
                "lane(2, 0, 5, true) = true", "lane(1, 0, 1, true) = true", "kind(0, 3) = true", "kind(1, 3) = true",
                "stand(22, true) = true");
        long left = play.ask("fewest()");
        long length = play.ask("plan()");
        for (int k = 0; k < length; k++) {
            long move = play.ask("planned(" + k + ")");
            String pegs = "(" + move / 10 + ", " + move % 10 + ")";
            left -= play.ask("cost" + pegs);
            play.say("why" + pegs + " = 0", "move" + pegs, "fewest() = " + left);
        }
        play.say("number(false) = 22", "fewest() = 0", "ways() = 1");
    }

    static void aRowCostsTheSumOfItsLanes() {
        new Play("yard(4, 1) = true", "lane(0, 1, 3, true) = true", "lane(1, 2, 40, true) = true",
                "lane(2, 3, 58, true) = true", "stand(3, true) = true", "fewest() = 101", "plan() = 3", "far() = 101",
                "stand(1, false) = true", "fewest() = 98", "stand(2, true) = true", "fewest() = 40");
    }

    // ---- V

    /** One disc goes by all five roles, along no LANES but those told. */
    static void byTheOtherRoles() {
        String[] steps = {"scheme() = 0", "single(0, 0, 2) = 1", "single(0, 2, 3) = 2", "single(0, 3, 4) = 3",
            "single(0, 4, 1) = 4"};
        String[] lanes = {"lane(4, 2, 1, true) = true", "lane(2, 1, 1, true) = true", "lane(1, 0, 1, true) = true",
            "lane(0, 3, 1, true) = true"};
        new Play("yard(5, 1) = true").say(lanes).say(steps).say("tried(0, 1, 4, 3, 2, 1, 0) = 4");
        for (int k = 0; k < 4; k++) {
            new Play("yard(5, 1) = true").say(lanes).say(lanes[k].replace(" 1, true", " 0, true")).say(steps)
                    .say("tried(0, 1, 4, 3, 2, 1, 0) = -2", "failed() = " + k);
        }
    }

    static void stepsInOrder() {
        new Play("lanes() = 6", "scheme() = 0", "single(0, 0, 2) = 1", "single(0, 2, 1) = 2",
                "tried(0, 1, 0, 1, 2, 3, 4) = 2");
        new Play("lanes() = 6", "scheme() = 0", "single(0, 2, 1) = 1", "single(0, 0, 2) = 2",
                "tried(0, 1, 0, 1, 2, 3, 4) = -2", "failed() = 0");
    }

    /** SCHEMES 0 to 2: disc HEIGHT - 1, and ahead of it the ones less by 1 and by 2, each to a PEG of its own. */
    static void aSingleStepMovesTheGreatestOfTheHeight() {
        String[] steps = {"scheme() = 0", "single(0, 0, 2) = 1", "scheme() = 1", "call(1, 0, 1, 0, 1, 3, 2, 4) = 1",
            "single(1, 0, 2) = 2", "scheme() = 2", "call(2, 1, 1, 0, 1, 3, 4, 2) = 1", "single(2, 0, 2) = 2"};
        String[] lanes = {"lane(0, 2, 1, true) = true", "lane(0, 3, 1, true) = true", "lane(0, 4, 1, true) = true"};
        new Play("yard(5, 3) = true").say(lanes).say(steps).say("tried(2, 3, 0, 1, 2, 3, 4) = -3", "count(2, 3) = 3",
                "tried(0, 3, 0, 1, 2, 3, 4) = -2", "tried(0, 1, 0, 1, 2, 3, 4) = -3", "tried(0, 1, 0, 2, 1, 3, 4) = -2",
                "tried(1, 2, 0, 2, 1, 3, 4) = -2", "failed() = 1");
    }

    /** The SCHEME that is called goes by all its roles; the LANES are those of one way to tell them. */
    static void aCallTellsRoles() {
        List<int[]> orders = orders();
        for (int[] there : orders) {
            for (int[] told : orders) {
                boolean same = Arrays.equals(there, told);
                new Play("yard(5, 2) = true", "lane(0, " + there[1] + ", 1, true) = true",
                        "lane(" + there[1] + ", " + there[2] + ", 1, true) = true",
                        "lane(" + there[2] + ", " + there[3] + ", 1, true) = true",
                        "lane(" + there[3] + ", " + there[0] + ", 1, true) = true", "scheme() = 0", "scheme() = 1",
                        "single(0, 0, 2) = 1", "single(0, 2, 3) = 2", "single(0, 3, 4) = 3", "single(0, 4, 1) = 4",
                        "call(1, 0, 1, 0, " + told[0] + ", " + told[1] + ", " + told[2] + ", " + told[3] + ") = 1",
                        "tried(1, 2, 0, 1, 2, 3, 4) = " + (same ? -3 : -2));
            }
        }
    }

    private static List<int[]> orders() {
        List<int[]> orders = new ArrayList<>();
        for (int code = 0; code < 256; code++) {
            int[] order = {1 + code / 64, 1 + code / 16 % 4, 1 + code / 4 % 4, 1 + code % 4};
            if (Arrays.stream(order).distinct().count() == 4) {
                orders.add(order);
            }
        }
        return orders;
    }

    private static int power(int base, int exponent) {
        int power = 1;
        for (int k = 0; k < exponent; k++) {
            power *= base;
        }
        return power;
    }
}
