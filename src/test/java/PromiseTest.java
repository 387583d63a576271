/** Each promise by itself: ordinary inputs, the edges that the document names, wrong inputs. */
public final class PromiseTest {
    private static final int LEAST = Integer.MIN_VALUE;
    private static final int MOST = Integer.MAX_VALUE;
    private static final int[] NO_PEGS_OF_3 = {LEAST, -1, 3, 4, MOST};

    private PromiseTest() {
    }

    public static void main(String[] args) {
        newObject();
        yard();
        kind();
        kindKeepsRight();
        lane();
        lanes();
        cost();
        stand();
        pegAndDisc();
        why();
        whyOrder();
        move();
        packs();
        undoAndRedo();
        undoOf200();
        moves();
        fewest();
        fewestOfGreatYards();
        plan();
        planStays();
        planned();
        ways();
        waysThatWrap();
        reachFarFarthest();
        joined();
        joinedByKinds();
        rename();
        about();
        scheme();
        single();
        call();
        count();
        countToTheGreatest();
        tried();
        triedByKinds();
        triedOf5000();
        failed();
        trouble();
        size();
        tooManyStands();
        Check.end();
    }

    private static DiscYard open(int pegs, int discs) {
        DiscYard x = new DiscYard();
        Check.due("yard", x.yard(pegs, discs), true);
        Check.due("lanes", x.lanes(), pegs * (pegs - 1));
        return x;
    }

    /** A yard with the LANES of a text such as "01 12", at COST 1, STRONG. */
    private static DiscYard laned(int pegs, int discs, String lanes) {
        DiscYard x = new DiscYard();
        Check.due("yard", x.yard(pegs, discs), true);
        for (String lane : lanes.split(" ")) {
            Check.due("lane", x.lane(lane.charAt(0) - '0', lane.charAt(1) - '0', 1, true), true);
        }
        return x;
    }

    private static void row(String name, String[] calls, long[] got, long... want) {
        for (int k = 0; k < want.length; k++) {
            Check.due(name + " " + calls[k], got[k], want[k]);
        }
    }

    private static void refused(DiscYard x, String call, boolean got, int trouble) {
        Check.due(call, got, false);
        Check.due("trouble() behind " + call, x.trouble(), trouble);
    }

    private static void refused(DiscYard x, String call, long got, int trouble) {
        Check.due(call, got, -1);
        Check.due("trouble() behind " + call, x.trouble(), trouble);
    }

    private static void done(DiscYard x, String call, boolean got) {
        Check.due(call, got, true);
        Check.due("trouble() behind " + call, x.trouble(), 0);
    }

    private static void done(DiscYard x, String call, long got, long want) {
        Check.due(call, got, want);
        Check.due("trouble() behind " + call, x.trouble(), 0);
    }

    private static int power(int base, int exponent) {
        int power = 1;
        for (int k = 0; k < exponent; k++) {
            power *= base;
        }
        return power;
    }

    /** NUMBER of the STAND with all discs on one PEG. */
    private static int allOn(int peg, int pegs, int discs) {
        return peg * (power(pegs, discs) - 1) / (pegs - 1);
    }

    private static void sizes(DiscYard x, int... want) {
        for (int what = 0; what < want.length; what++) {
            Check.due("size(" + what + ")", x.size(what), want[what]);
        }
    }

    private static void newObject() {
        Check.part("promise 1");
        DiscYard x = new DiscYard();
        Check.due("NONE", DiscYard.NONE, -1);
        sizes(x, 3, 1, 0, 0, 0, 0, 0, 0);
        Check.due("number(false)", x.number(false), 0);
        Check.due("number(true)", x.number(true), 0);
        Check.due("peg(0)", x.peg(0), 0);
        Check.due("disc(0, 0)", x.disc(0, 0), 0);
        Check.due("trouble()", x.trouble(), 0);
        Check.due("failed()", x.failed(), -1);
        Check.due("planned(0)", x.planned(0), -1);
        Check.due("undo()", x.undo(), 0);
        Check.due("redo()", x.redo(), 0);
        Check.due("moves()", x.moves(), 0);
        Check.due("reach()", x.reach(), 1);
        Check.due("joined(0)", x.joined(0), 3);
        DiscYard other = new DiscYard();
        x.lanes();
        x.scheme();
        sizes(other, 3, 1, 0, 0, 0, 0, 0, 0);
    }

    private static void yard() {
        Check.part("promise 2");
        DiscYard x = new DiscYard();
        for (int pegs = 2; pegs <= 5; pegs++) {
            for (int discs = 1; discs <= 7; discs++) {
                done(x, "yard", x.yard(pegs, discs));
                sizes(x, pegs, discs, 0, 0, 0, 0, 0, 0);
            }
        }
        Check.due("yard(3, 2)", x.yard(3, 2), true);
        x.lanes();
        x.scheme();
        x.kind(1, 3);
        x.stand(8, true);
        x.move(0, 2);
        x.undo();
        x.move(0, 1);
        int[][] wrong = {{1, 1}, {6, 1}, {0, 3}, {-1, 3}, {LEAST, 3}, {MOST, 3}, {3, 0}, {3, 8}, {3, -1},
            {3, LEAST}, {3, MOST}, {LEAST, MOST}, {MOST, MOST}};
        for (int[] w : wrong) {
            refused(x, "yard(" + w[0] + ", " + w[1] + ")", x.yard(w[0], w[1]), 1);
        }
        sizes(x, 3, 2, 6, 1, 1, 0, 0, 12);
        Check.due("number(false)", x.number(false), 1);
        Check.due("number(true)", x.number(true), 8);
        done(x, "yard(3, 2)", x.yard(3, 2));
        sizes(x, 3, 2, 0, 1, 0, 0, 0, 0);
        Check.due("number(false)", x.number(false), 0);
        Check.due("number(true)", x.number(true), 0);
        Check.due("undo()", x.undo(), 0);
        Check.due("cost(0, 1)", x.cost(0, 1), 0);
    }

    private static void kind() {
        Check.part("promise 3");
        DiscYard x = open(5, 7);
        for (int disc = 0; disc < 7; disc++) {
            done(x, "kind", x.kind(disc, 3));
        }
        Check.due("size(7)", x.size(7), 16383);
        int[] wrong = {LEAST, -1, 7, 8, MOST};
        for (int w : wrong) {
            refused(x, "kind(" + w + ", 0)", x.kind(w, 0), 1);
        }
        int[] wrongKinds = {LEAST, -1, 4, MOST};
        for (int w : wrongKinds) {
            refused(x, "kind(0, " + w + ")", x.kind(0, w), 1);
        }
        Check.due("size(7)", x.size(7), 16383);
        x.move(0, 1);
        x.undo();
        x.move(0, 1);
        Check.due("size(4)", x.size(4), 1);
        refused(x, "kind(7, 1)", x.kind(7, 1), 1);
        Check.due("size(4)", x.size(4), 1);
        done(x, "kind(6, 3)", x.kind(6, 3));
        Check.due("undo()", x.undo(), 0);
        x.move(1, 0);
        x.undo();
        done(x, "kind(6, 0)", x.kind(6, 0));
        Check.due("redo()", x.redo(), 0);
        Check.due("size(7)", x.size(7), 4095);
    }

    private static void kindKeepsRight() {
        Check.part("promise 3, RIGHT");
        DiscYard x = open(3, 3);
        done(x, "kind(0, 2)", x.kind(0, 2));
        refused(x, "kind(2, 2)", x.kind(2, 2), 3);
        done(x, "kind(1, 2)", x.kind(1, 2));
        done(x, "kind(2, 2)", x.kind(2, 2));
        refused(x, "kind(0, 0)", x.kind(0, 0), 3);
        refused(x, "kind(0, 1)", x.kind(0, 1), 3);
        refused(x, "kind(1, 3)", x.kind(1, 3), 3);
        done(x, "kind(2, 0)", x.kind(2, 0));
        Check.due("size(7)", x.size(7), 10);
        x.yard(3, 2);
        done(x, "stand(1, false)", x.stand(1, false));
        refused(x, "kind(1, 2), the GOAL", x.kind(1, 2), 3);
        done(x, "stand(1, true)", x.stand(1, true));
        done(x, "stand(0, false)", x.stand(0, false));
        refused(x, "kind(1, 2), the STAND", x.kind(1, 2), 3);
        done(x, "stand(1, false)", x.stand(1, false));
        done(x, "kind(1, 2)", x.kind(1, 2));
    }

    private static void lane() {
        Check.part("promise 4");
        DiscYard x = new DiscYard();
        done(x, "lane(0, 1, 1, false)", x.lane(0, 1, 1, false));
        done(x, "lane(1, 2, 100, true)", x.lane(1, 2, 100, true));
        Check.due("cost(1, 2)", x.cost(1, 2), 100);
        Check.due("size(2)", x.size(2), 2);
        done(x, "lane(1, 2, 0, true)", x.lane(1, 2, 0, true));
        Check.due("cost(1, 2)", x.cost(1, 2), 0);
        done(x, "lane(1, 2, 0, false)", x.lane(1, 2, 0, false));
        Check.due("size(2)", x.size(2), 1);
        x.move(0, 1);
        for (int p : NO_PEGS_OF_3) {
            refused(x, "lane(" + p + ", 0, 1, true)", x.lane(p, 0, 1, true), 1);
            refused(x, "lane(0, " + p + ", 1, true)", x.lane(0, p, 1, true), 1);
            refused(x, "lane(p, p, 1, true)", x.lane(p, p, 1, true), 1);
        }
        for (int same = 0; same < 3; same++) {
            refused(x, "lane to itself", x.lane(same, same, 1, true), 1);
            refused(x, "no lane to itself", x.lane(same, same, 0, true), 1);
        }
        int[] wrongCosts = {LEAST, -1, 101, MOST};
        for (int w : wrongCosts) {
            refused(x, "lane(0, 1, " + w + ", true)", x.lane(0, 1, w, true), 1);
        }
        Check.due("cost(0, 1)", x.cost(0, 1), 1);
        Check.due("size(4)", x.size(4), 1);
        done(x, "lane(2, 0, 0, true)", x.lane(2, 0, 0, true));
        Check.due("undo()", x.undo(), 0);
    }

    private static void lanes() {
        Check.part("promise 5");
        DiscYard x = new DiscYard();
        x.lane(0, 1, 9, false);
        x.kind(0, 1);
        Check.due("why(0, 1)", x.why(0, 1), 3);
        Check.due("lanes()", x.lanes(), 6);
        Check.due("cost(0, 1)", x.cost(0, 1), 1);
        Check.due("cost(2, 1)", x.cost(2, 1), 1);
        Check.due("why(0, 1)", x.why(0, 1), 0);
        x.move(0, 1);
        x.move(1, 2);
        x.undo();
        Check.due("lanes()", x.lanes(), 6);
        sizes(x, 3, 1, 6, 0, 0, 0);
        int[] ways = {2, 6, 12, 20};
        for (int pegs = 2; pegs <= 5; pegs++) {
            x.yard(pegs, 7);
            Check.due("lanes()", x.lanes(), ways[pegs - 2]);
            Check.due("size(2)", x.size(2), ways[pegs - 2]);
        }
    }

    private static void cost() {
        Check.part("promise 6");
        DiscYard x = new DiscYard();
        x.lane(2, 0, 77, false);
        Check.due("cost(2, 0)", x.cost(2, 0), 77);
        Check.due("cost(0, 2)", x.cost(0, 2), 0);
        Check.due("cost(2, 2)", x.cost(2, 2), 0);
        for (int p : NO_PEGS_OF_3) {
            Check.due("cost(" + p + ", 0)", x.cost(p, 0), -1);
            Check.due("cost(0, " + p + ")", x.cost(0, p), -1);
        }
        x.yard(5, 1);
        x.lane(3, 4, 12, true);
        Check.due("cost(3, 4)", x.cost(3, 4), 12);
        x.yard(2, 1);
        Check.due("cost(1, 2)", x.cost(1, 2), -1);
    }

    private static void stand() {
        Check.part("promises 7 and 8");
        DiscYard x = open(3, 4);
        done(x, "stand(80, false)", x.stand(80, false));
        Check.due("number(false)", x.number(false), 80);
        Check.due("number(true)", x.number(true), 0);
        done(x, "stand(34, true)", x.stand(34, true));
        Check.due("number(false)", x.number(false), 80);
        Check.due("number(true)", x.number(true), 34);
        int[] wrong = {LEAST, -1, 81, 82, MOST};
        for (int w : wrong) {
            refused(x, "stand(" + w + ", false)", x.stand(w, false), 1);
            refused(x, "stand(" + w + ", true)", x.stand(w, true), 1);
        }
        x.move(2, 0);
        x.move(0, 1);
        x.undo();
        done(x, "stand(5, true)", x.stand(5, true));
        Check.due("size(4)", x.size(4), 1);
        Check.due("size(5)", x.size(5), 1);
        refused(x, "stand(81, false)", x.stand(81, false), 1);
        Check.due("size(4)", x.size(4), 1);
        done(x, "stand(78, false)", x.stand(78, false));
        Check.due("size(4)", x.size(4), 0);
        Check.due("size(5)", x.size(5), 0);
        x.yard(5, 7);
        done(x, "stand(78124, false)", x.stand(78124, false));
        Check.due("peg(6)", x.peg(6), 4);
        refused(x, "stand(78125, true)", x.stand(78125, true), 1);
        x.yard(3, 2);
        x.stand(1, false);
        x.stand(1, true);
        x.kind(1, 2);
        int[] notRight = {0, 4, 8};
        for (int n : notRight) {
            refused(x, "stand(" + n + ", false)", x.stand(n, false), 3);
            refused(x, "stand(" + n + ", true)", x.stand(n, true), 3);
        }
        done(x, "stand(7, true)", x.stand(7, true));
        Check.due("number(false)", x.number(false), 1);
        x.kind(0, 2);
        done(x, "stand(0, false), both RINGED", x.stand(0, false));
    }

    private static void pegAndDisc() {
        Check.part("promises 9 and 10");
        DiscYard x = open(3, 5);
        // Discs 0 .. 4 on 2, 0, 2, 1, 2.
        Check.due("stand", x.stand(2 + 0 + 18 + 27 + 162, false), true);
        int[] pegs = {2, 0, 2, 1, 2};
        for (int disc = 0; disc < 5; disc++) {
            Check.due("peg(" + disc + ")", x.peg(disc), pegs[disc]);
        }
        int[] noDiscs = {LEAST, -1, 5, 6, 7, MOST};
        for (int n : noDiscs) {
            Check.due("peg(" + n + ")", x.peg(n), -1);
            Check.due("disc(2, " + n + ")", x.disc(2, n), -1);
        }
        Check.due("disc(2, 0)", x.disc(2, 0), 4);
        Check.due("disc(2, 1)", x.disc(2, 1), 2);
        Check.due("disc(2, 2)", x.disc(2, 2), 0);
        Check.due("disc(2, 3)", x.disc(2, 3), -1);
        Check.due("disc(0, 0)", x.disc(0, 0), 1);
        Check.due("disc(0, 1)", x.disc(0, 1), -1);
        Check.due("disc(1, 0)", x.disc(1, 0), 3);
        for (int p : NO_PEGS_OF_3) {
            Check.due("disc(" + p + ", 0)", x.disc(p, 0), -1);
        }
        x.yard(2, 7);
        Check.due("disc(0, 6)", x.disc(0, 6), 0);
        Check.due("disc(0, 0)", x.disc(0, 0), 6);
        Check.due("disc(1, 0)", x.disc(1, 0), -1);
    }

    private static void why() {
        Check.part("promise 11");
        DiscYard x = new DiscYard();
        x.yard(3, 3);
        for (int p : NO_PEGS_OF_3) {
            Check.due("why(" + p + ", 0)", x.why(p, 0), -1);
            Check.due("why(0, " + p + ")", x.why(0, p), -1);
        }
        Check.due("why(0, 0)", x.why(0, 0), 1);
        Check.due("why(0, 1)", x.why(0, 1), 1);
        x.lanes();
        Check.due("why(1, 1)", x.why(1, 1), 1);
        Check.due("why(1, 0)", x.why(1, 0), 2);
        Check.due("why(0, 1)", x.why(0, 1), 0);
        x.move(0, 1);
        Check.due("why(0, 1)", x.why(0, 1), 4);
        Check.due("why(1, 0)", x.why(1, 0), 0);
        Check.due("why(0, 2)", x.why(0, 2), 0);
        Check.due("number(false)", x.number(false), 1);
    }

    private static void whyOrder() {
        Check.part("promise 11, the first of");
        DiscYard x = new DiscYard();
        x.yard(3, 2);
        Check.due("no LANE, no disc", x.why(1, 0), 1);
        x.stand(1, false);
        x.stand(1, true);
        x.kind(1, 1);
        Check.due("no LANE, HEAVY, greater", x.why(0, 1), 1);
        x.lane(0, 1, 4, false);
        Check.due("HEAVY, greater", x.why(0, 1), 3);
        x.kind(1, 2);
        Check.due("RINGED is HEAVY, greater", x.why(0, 1), 3);
        x.lane(0, 1, 4, true);
        Check.due("greater", x.why(0, 1), 4);
        x.lane(1, 0, 4, false);
        Check.due("PLAIN onto RINGED", x.why(1, 0), 5);
        x.kind(0, 3);
        Check.due("STICKY onto RINGED", x.why(1, 0), 5);
        x.kind(0, 1);
        Check.due("HEAVY onto RINGED, not STRONG", x.why(1, 0), 3);
        x.lane(1, 0, 4, true);
        Check.due("HEAVY onto RINGED, STRONG", x.why(1, 0), 5);
        x.kind(0, 2);
        Check.due("RINGED onto RINGED", x.why(1, 0), 0);
        x.yard(3, 2);
        x.lane(0, 1, 1, false);
        x.stand(1, false);
        x.stand(1, true);
        x.kind(0, 2);
        Check.due("greater onto RINGED", x.why(0, 1), 4);
        x.lane(2, 0, 1, false);
        Check.due("no disc", x.why(2, 0), 2);
    }

    private static void move() {
        Check.part("promise 12");
        DiscYard x = new DiscYard();
        x.yard(3, 2);
        x.lane(0, 1, 3, false);
        x.lane(0, 2, 3, false);
        for (int p : NO_PEGS_OF_3) {
            refused(x, "move(" + p + ", 0)", x.move(p, 0), 1);
            refused(x, "move(0, " + p + ")", x.move(0, p), 1);
        }
        refused(x, "move(0, 0)", x.move(0, 0), 4);
        refused(x, "move(1, 2), no LANE", x.move(1, 2), 4);
        done(x, "move(0, 1)", x.move(0, 1), 1);
        refused(x, "move(0, 1), greater", x.move(0, 1), 4);
        Check.due("number(false)", x.number(false), 1);
        done(x, "move(0, 2)", x.move(0, 2), 1);
        Check.due("number(false)", x.number(false), 7);
        Check.due("number(true)", x.number(true), 0);
        refused(x, "move(0, 1), no disc", x.move(0, 1), 4);
        Check.due("size(4)", x.size(4), 2);
        x.undo();
        refused(x, "move(0, 1), refused", x.move(0, 1), 4);
        Check.due("redo() behind a refused move", x.redo(), 1);
    }

    private static void packs() {
        Check.part("promise 12, PACKS");
        DiscYard x = open(3, 7);
        for (int disc = 0; disc < 7; disc++) {
            x.kind(disc, 3);
        }
        done(x, "move(0, 2), seven", x.move(0, 2), 7);
        Check.due("number(false)", x.number(false), 2186);
        x.kind(3, 0);
        done(x, "move(2, 1), three", x.move(2, 1), 3);
        Check.due("number(false)", x.number(false), 2186 - 13);
        done(x, "move(2, 0), PLAIN alone", x.move(2, 0), 1);
        refused(x, "move(2, 1), three of greater ones", x.move(2, 1), 4);
        Check.due("why(2, 1)", x.why(2, 1), 4);
        done(x, "move(1, 0), onto PLAIN", x.move(1, 0), 3);
        done(x, "move(2, 1)", x.move(2, 1), 3);
        x = open(3, 3);
        x.kind(0, 3);
        x.kind(2, 3);
        // Disc 1 on PEG 1: disc 0 lies right on disc 2, which is not of the number one more.
        x.stand(3, false);
        done(x, "move(0, 2), not one more", x.move(0, 2), 1);
        x.kind(1, 3);
        x.stand(3, false);
        done(x, "move(0, 2), one more is elsewhere", x.move(0, 2), 1);
        done(x, "move(2, 1), joins", x.move(2, 1), 1);
        done(x, "move(1, 0), two that join a third", x.move(1, 0), 2);
        done(x, "move(0, 1), three", x.move(0, 1), 3);
        Check.due("undo()", x.undo(), 1);
        Check.due("undo()", x.undo(), 1);
        Check.due("number(false)", x.number(false), 4);
        Check.due("redo()", x.redo(), 1);
        Check.due("number(false)", x.number(false), 0);
        // HEAVY ones of neighbouring numbers are no PACK.
        x = open(3, 2);
        x.kind(0, 1);
        x.kind(1, 1);
        done(x, "move(0, 1), HEAVY", x.move(0, 1), 1);
        // STICKY ones go along LANES that aren't STRONG.
        x = new DiscYard();
        x.yard(2, 2);
        x.lane(0, 1, 1, false);
        x.kind(0, 3);
        x.kind(1, 3);
        done(x, "move(0, 1), STICKY", x.move(0, 1), 2);
    }

    private static void undoAndRedo() {
        Check.part("promises 13 and 14");
        DiscYard x = open(3, 3);
        Check.due("undo()", x.undo(), 0);
        Check.due("redo()", x.redo(), 0);
        x.move(0, 1);
        x.move(0, 2);
        x.move(1, 2);
        int[] numbers = {0, 1, 7, 8};
        for (int k = 2; k >= 0; k--) {
            Check.due("undo()", x.undo(), 1);
            Check.due("number(false)", x.number(false), numbers[k]);
            Check.due("size(4)", x.size(4), k);
            Check.due("size(5)", x.size(5), 3 - k);
        }
        Check.due("undo()", x.undo(), 0);
        for (int k = 1; k <= 2; k++) {
            Check.due("redo()", x.redo(), 1);
            Check.due("number(false)", x.number(false), numbers[k]);
        }
        Check.due("undo()", x.undo(), 1);
        Check.due("size(5)", x.size(5), 2);
        x.move(1, 2);
        Check.due("size(5) behind a move", x.size(5), 0);
        Check.due("redo() behind a move", x.redo(), 0);
        Check.due("size(4)", x.size(4), 2);
        x.undo();
        Check.due("number(false)", x.number(false), 1);
        String[] clearing = {"yard", "kind", "lane", "lanes", "stand", "rename", "about"};
        for (String call : clearing) {
            x = open(3, 3);
            x.move(0, 1);
            x.move(1, 2);
            x.undo();
            switch (call) {
                case "yard" -> x.yard(3, 3);
                case "kind" -> x.kind(2, 1);
                case "lane" -> x.lane(0, 1, 1, true);
                case "lanes" -> x.lanes();
                case "stand" -> x.stand(1, false);
                case "rename" -> x.rename(0, 1, 2, 3, 4);
                default -> x.about();
            }
            Check.due("size(4) behind " + call, x.size(4), 0);
            Check.due("size(5) behind " + call, x.size(5), 0);
            Check.due("undo() behind " + call, x.undo(), 0);
            Check.due("redo() behind " + call, x.redo(), 0);
        }
        x = open(3, 3);
        x.move(0, 1);
        x.move(1, 2);
        x.undo();
        x.plan();
        x.stand(4, true);
        x.scheme();
        x.tried(0, 1, 0, 1, 2, 3, 4);
        x.rename(0, 0, 1, 2, 3);
        x.kind(9, 9);
        x.lane(1, 1, 1, true);
        Check.due("size(4) behind calls that keep it", x.size(4), 1);
        Check.due("size(5) behind calls that keep it", x.size(5), 1);
    }

    private static void undoOf200() {
        Check.part("promise 13, of 200");
        DiscYard x = open(3, 1);
        for (int k = 1; k <= 205; k++) {
            Check.due("move", x.move((k - 1) % 3, k % 3), 1);
            if (k >= 199) {
                Check.due("size(4)", x.size(4), Math.min(k, 200));
            }
        }
        for (int k = 204; k >= 5; k--) {
            Check.due("undo()", x.undo(), 1);
            if (k > 185 || k < 15) {
                Check.due("number(false)", x.number(false), k % 3);
            }
        }
        Check.due("undo() of the 201st", x.undo(), 0);
        Check.due("number(false)", x.number(false), 2);
        Check.due("size(5)", x.size(5), 200);
        for (int k = 6; k <= 15; k++) {
            Check.due("redo()", x.redo(), 1);
            Check.due("number(false)", x.number(false), k % 3);
        }
        Check.due("size(4)", x.size(4), 10);
        Check.due("size(5)", x.size(5), 190);
        Check.due("move", x.move(0, 2), 1);
        Check.due("size(4)", x.size(4), 11);
        Check.due("size(5)", x.size(5), 0);
    }

    private static void moves() {
        Check.part("promise 15");
        DiscYard x = open(5, 7);
        Check.due("moves()", x.moves(), 4);
        x.move(0, 1);
        // Disc 0 to four pegs, disc 1 to three.
        Check.due("moves()", x.moves(), 7);
        x.lane(1, 4, 0, true);
        Check.due("moves()", x.moves(), 6);
        x = open(3, 2);
        x.stand(1, false);
        x.stand(1, true);
        Check.due("moves()", x.moves(), 3);
        x.kind(1, 2);
        Check.due("moves() with RINGED", x.moves(), 2);
        x.lane(0, 2, 1, false);
        Check.due("moves() with a weak LANE", x.moves(), 1);
        x = new DiscYard();
        Check.due("moves() without LANES", x.moves(), 0);
    }

    private static void fewest() {
        Check.part("promise 16");
        DiscYard x = new DiscYard();
        done(x, "fewest() to itself", x.fewest(), 0);
        x.stand(1, true);
        done(x, "fewest() without LANES", x.fewest(), -2);
        x.lane(0, 1, 100, false);
        done(x, "fewest()", x.fewest(), 100);
        x.lane(0, 2, 49, false);
        x.lane(2, 1, 50, false);
        done(x, "fewest() round about", x.fewest(), 99);
        x.kind(0, 1);
        done(x, "fewest() of HEAVY", x.fewest(), -2);
        x.lane(0, 1, 100, true);
        done(x, "fewest() of HEAVY, STRONG", x.fewest(), 100);
        for (int discs = 1; discs <= 7; discs++) {
            x = open(3, discs);
            x.stand(allOn(2, 3, discs), true);
            done(x, "tower of " + discs, x.fewest(), power(2, discs) - 1);
            x = laned(3, discs, "01 10 12 21");
            x.stand(allOn(2, 3, discs), true);
            done(x, "tower in a line of " + discs, x.fewest(), power(3, discs) - 1);
        }
        int[] one = {1, 5, 15, 43, 119, 327, 895};
        int[] two = {2, 7, 21, 59, 163, 447, 1223};
        for (int discs = 1; discs <= 7; discs++) {
            x = laned(3, discs, "01 12 20");
            x.stand(allOn(1, 3, discs), true);
            done(x, "tower around, " + discs, x.fewest(), one[discs - 1]);
            x.stand(allOn(2, 3, discs), true);
            done(x, "tower around twice, " + discs, x.fewest(), two[discs - 1]);
        }
        x = open(2, 2);
        x.stand(3, true);
        done(x, "two pegs", x.fewest(), -2);
        x.move(0, 1);
        x.stand(0, true);
        done(x, "back", x.fewest(), 1);
    }

    private static void fewestOfGreatYards() {
        Check.part("promise 16, 16,384 and 15,625 STANDS");
        int[] four = {1, 3, 5, 9, 13, 17, 25};
        int[] five = {1, 3, 5, 7, 11, 15};
        for (int discs = 1; discs <= 7; discs++) {
            DiscYard x = open(4, discs);
            x.stand(allOn(3, 4, discs), true);
            done(x, "tower of " + discs, x.fewest(), four[discs - 1]);
            done(x, "plan()", x.plan(), four[discs - 1]);
        }
        for (int discs = 1; discs <= 6; discs++) {
            DiscYard x = open(5, discs);
            x.stand(allOn(4, 5, discs), true);
            done(x, "tower of " + discs, x.fewest(), five[discs - 1]);
            done(x, "reach()", x.reach(), power(5, discs));
            done(x, "joined(3)", x.joined(3), power(5, discs));
        }
    }

    private static void plan() {
        Check.part("promise 17");
        DiscYard x = new DiscYard();
        x.yard(3, 1);
        x.lane(0, 2, 10, false);
        x.lane(0, 1, 4, false);
        x.lane(1, 2, 6, false);
        x.stand(2, true);
        done(x, "plan(), the longer one is first", x.plan(), 2);
        Check.due("planned(0)", x.planned(0), 1);
        Check.due("planned(1)", x.planned(1), 12);
        done(x, "ways()", x.ways(), 2);
        x.rename(0, 2, 1, 3, 4);
        done(x, "plan(), the shorter one is first", x.plan(), 1);
        Check.due("planned(0)", x.planned(0), 1);
        done(x, "fewest()", x.fewest(), 10);
        x = laned(3, 7, "01 10 12 21");
        x.stand(2186, true);
        done(x, "plan(), 2,186 moves", x.plan(), 2186);
        Check.due("size(6)", x.size(6), 2186);
        playPlan(x, 512 - 12);
        // The first move in order, 0 to 1, is too dear; disc 1 goes by 2, disc 0 out of its way twice.
        x = open(3, 2);
        x.lane(0, 1, 50, true);
        x.stand(allOn(1, 3, 2), true);
        done(x, "plan() around a dear LANE", x.plan(), 7);
        int[] want = {2, 21, 2, 10, 21, 2, 21};
        for (int k = 0; k < want.length; k++) {
            Check.due("planned(" + k + ")", x.planned(k), want[k]);
        }
        done(x, "fewest()", x.fewest(), 7);
    }

    /** The moves of THE PLAN can be done, and each takes its LANE's COST from FEWEST. */
    private static void playPlan(DiscYard x, int most) {
        int left = x.fewest();
        for (int k = 0; k < x.size(6) && k < most / 6; k++) {
            int code = x.planned(k);
            Check.due("move " + code, x.move(code / 10, code % 10) > 0, true);
            left -= x.cost(code / 10, code % 10);
            Check.due("fewest()", x.fewest(), left);
        }
    }

    private static void planStays() {
        Check.part("promise 17, THE PLAN stays");
        DiscYard x = open(3, 2);
        x.stand(8, true);
        done(x, "plan()", x.plan(), 3);
        x.yard(2, 2);
        x.stand(3, true);
        done(x, "plan()", x.plan(), -2);
        sizes(x, 2, 2, 0, 0, 0, 0, 3);
        int[] want = {1, 2, 12};
        for (int k = 0; k < 3; k++) {
            Check.due("planned(" + k + ")", x.planned(k), want[k]);
        }
        x.yard(5, 7);
        refused(x, "plan()", x.plan(), 2);
        Check.due("planned(2)", x.planned(2), 12);
        Check.due("size(6)", x.size(6), 3);
        x.yard(2, 2);
        done(x, "plan() to itself", x.plan(), 0);
        Check.due("size(6)", x.size(6), 0);
        Check.due("planned(0)", x.planned(0), -1);
    }

    private static void planned() {
        Check.part("promise 18");
        DiscYard x = open(3, 3);
        x.stand(26, true);
        Check.due("planned(0) ahead of a plan", x.planned(0), -1);
        x.plan();
        int[] want = {2, 1, 21, 2, 10, 12, 2};
        for (int k = 0; k < 7; k++) {
            Check.due("planned(" + k + ")", x.planned(k), want[k]);
        }
        int[] wrong = {LEAST, -1, 7, 8, 16, 17, MOST};
        for (int w : wrong) {
            Check.due("planned(" + w + ")", x.planned(w), -1);
        }
        x.rename(2, 1, 0, 3, 4);
        x.move(2, 0);
        Check.due("planned(0) stays", x.planned(0), 2);
        x = laned(5, 1, "04 43");
        x.stand(3, true);
        x.plan();
        Check.due("planned(0)", x.planned(0), 4);
        Check.due("planned(1)", x.planned(1), 43);
    }

    private static void ways() {
        Check.part("promise 19");
        DiscYard x = open(4, 3);
        x.stand(allOn(1, 4, 3), true);
        done(x, "ways() with four pegs", x.ways(), 2);
        x = open(5, 3);
        x.stand(allOn(1, 5, 3), true);
        done(x, "ways() with five pegs", x.ways(), 6);
        x = open(5, 2);
        x.stand(allOn(4, 5, 2), true);
        done(x, "ways() of two discs", x.ways(), 3);
        x.stand(0, true);
        done(x, "ways() to itself", x.ways(), 1);
        x = new DiscYard();
        x.stand(2, true);
        done(x, "ways() without LANES", x.ways(), 0);
        x = new DiscYard();
        x.yard(5, 1);
        x.stand(1, true);
        x.lane(0, 1, 6, true);
        for (int p = 2; p < 5; p++) {
            x.lane(0, p, p, true);
            x.lane(p, 1, 6 - p, true);
        }
        done(x, "ways(), one straight, three around", x.ways(), 4);
        x.lane(2, 3, 1, true);
        x.lane(3, 4, 1, true);
        // 0 2 3 1, 0 3 4 1, 0 2 3 4 1 besides.
        done(x, "ways(), seven", x.ways(), 7);
        x.lane(0, 1, 5, true);
        done(x, "ways(), a cheaper one", x.ways(), 1);
        done(x, "fewest()", x.fewest(), 5);
    }

    private static void waysThatWrap() {
        Check.part("promise 19, wraps");
        DiscYard x = new DiscYard();
        PlainYard plain = new PlainYard();
        x.yard(4, 7);
        plain.yard(4, 7);
        int[][] lanes = {{0, 2, 2}, {1, 2, 1}, {1, 3, 3}, {2, 1, 2}, {3, 1, 3}, {3, 2, 4}};
        for (int[] lane : lanes) {
            x.lane(lane[0], lane[1], lane[2], true);
            plain.lane(lane[0], lane[1], lane[2], true);
        }
        x.stand(5461, true);
        plain.stand(5461, true);
        String exact = plain.exactWays().toString();
        Check.due("70742542946735751168 rows", exact.equals("70742542946735751168"), true);
        done(x, "ways()", x.ways(), -3044433348102455296L);
        done(x, "fewest()", x.fewest(), 1036);
    }

    private static void reachFarFarthest() {
        Check.part("promises 20, 21 and 22");
        DiscYard x = new DiscYard();
        done(x, "reach()", x.reach(), 1);
        done(x, "far()", x.far(), 0);
        done(x, "farthest()", x.farthest(), 0);
        x.stand(2, false);
        done(x, "farthest()", x.farthest(), 2);
        x = laned(3, 7, "01 10 12 21");
        done(x, "reach() in a line", x.reach(), 2187);
        done(x, "far() in a line", x.far(), 2186);
        done(x, "farthest() in a line", x.farthest(), 2186);
        x.about();
        x.stand(2186, false);
        done(x, "farthest() from the other end", x.farthest(), 0);
        x = new DiscYard();
        x.yard(5, 1);
        x.lane(0, 4, 9, true);
        x.lane(0, 3, 9, true);
        x.lane(0, 1, 8, true);
        done(x, "reach()", x.reach(), 4);
        done(x, "far()", x.far(), 9);
        done(x, "farthest(), the least", x.farthest(), 3);
        x.lane(1, 3, 100, true);
        x.lane(1, 2, 100, true);
        done(x, "far()", x.far(), 108);
        done(x, "farthest()", x.farthest(), 2);
        x.stand(4, true);
        x.move(0, 4);
        done(x, "reach() from 4", x.reach(), 1);
        x.undo();
        done(x, "reach() from 0", x.reach(), 5);
        x = open(2, 7);
        done(x, "reach() with two pegs", x.reach(), 2);
        x = open(4, 7);
        done(x, "reach() of 16,384", x.reach(), 16384);
        x = open(3, 3);
        done(x, "far()", x.far(), 7);
        done(x, "farthest()", x.farthest(), 9);
    }

    private static void joined() {
        Check.part("promise 23");
        DiscYard x = laned(2, 2, "01");
        String[] calls = {"joined(0)", "joined(1)", "joined(2)", "joined(3)"};
        row("one LANE", calls, allJoined(x), 4, 1, 2, 1);
        x.lane(1, 0, 5, false);
        row("two LANES", calls, allJoined(x), 2, 2, 2, 2);
        x = new DiscYard();
        row("no LANES", calls, allJoined(x), 3, 1, 3, 1);
        x = laned(5, 1, "01 10 12 23 34 42");
        row("a ring behind a pair", calls, allJoined(x), 2, 2, 1, 3);
        x.stand(3, false);
        row("in the ring", calls, allJoined(x), 2, 3, 1, 3);
        x.about();
        row("turned about", calls, allJoined(x), 2, 2, 1, 3);
        x.stand(4, false);
        row("turned about, in the ring", calls, allJoined(x), 2, 3, 1, 3);
        x = laned(3, 7, "01 12 20");
        row("around", calls, allJoined(x), 1, 2187, 1, 2187);
        x = open(4, 7);
        row("16,384 STANDS", calls, allJoined(x), 1, 16384, 1, 16384);
        x = open(5, 6);
        row("15,625 STANDS", calls, allJoined(x), 1, 15625, 1, 15625);
        int[] wrong = {LEAST, -1, 4, 5, MOST};
        for (int w : wrong) {
            refused(x, "joined(" + w + ")", x.joined(w), 1);
        }
        done(x, "joined(0)", x.joined(0), 1);
    }

    private static long[] allJoined(DiscYard x) {
        long[] got = new long[4];
        for (int what = 0; what < 4; what++) {
            got[what] = x.joined(what);
            Check.due("trouble()", x.trouble(), 0);
        }
        return got;
    }

    private static void joinedByKinds() {
        Check.part("promise 23, KINDS");
        String[] calls = {"joined(0)", "joined(1)", "joined(2)", "joined(3)"};
        DiscYard x = open(3, 2);
        x.stand(1, false);
        x.stand(1, true);
        x.kind(1, 2);
        // Six RIGHT stands of nine.
        row("RINGED", calls, allJoined(x), 1, 6, 1, 6);
        done(x, "reach()", x.reach(), 6);
        x = open(3, 2);
        x.kind(0, 3);
        x.kind(1, 3);
        // Those that lie together never part again; six stands lead into those three.
        row("STICKY", calls, allJoined(x), 2, 3, 1, 6);
        done(x, "reach()", x.reach(), 3);
        x.stand(1, false);
        row("STICKY apart", calls, allJoined(x), 2, 6, 1, 6);
        done(x, "reach()", x.reach(), 9);
    }

    private static void rename() {
        Check.part("promise 24");
        DiscYard x = new DiscYard();
        x.yard(3, 2);
        x.lane(0, 1, 5, false);
        x.lane(2, 0, 7, true);
        x.kind(1, 1);
        x.stand(2 + 3, false);
        x.stand(1 + 6, true);
        done(x, "rename(1, 2, 0, ..)", x.rename(1, 2, 0, LEAST, MOST));
        Check.due("cost(1, 2)", x.cost(1, 2), 5);
        Check.due("cost(0, 1)", x.cost(0, 1), 7);
        Check.due("size(2)", x.size(2), 2);
        Check.due("number(false)", x.number(false), 0 + 6);
        Check.due("number(true)", x.number(true), 2 + 0);
        Check.due("size(7)", x.size(7), 4);
        x.stand(0, false);
        Check.due("why(0, 1), STRONG went with it", x.why(0, 1), 0);
        x.stand(1 + 3 * 1, false);
        x.move(1, 2);
        Check.due("why(1, 2), weak went with it", x.why(1, 2), 3);
        int[][] wrong = {{0, 0, 1, 2, 3}, {0, 1, 3, 2, 4}, {1, 2, 3, 0, 4}, {-1, 0, 1, 2, 3}, {0, 1, LEAST, 2, 2},
            {MOST, 1, 2, 0, 0}, {2, 1, 1, 0, 0}, {32, 1, 2, 0, 0}, {0, 33, 2, 1, 1}};
        for (int[] w : wrong) {
            refused(x, "rename", x.rename(w[0], w[1], w[2], w[3], w[4]), 1);
        }
        Check.due("cost(1, 2)", x.cost(1, 2), 5);
        Check.due("size(4)", x.size(4), 1);
        x.yard(5, 7);
        x.stand(78124, false);
        done(x, "rename of 78,125 STANDS", x.rename(4, 3, 2, 1, 0));
        Check.due("number(false)", x.number(false), 0);
        Check.due("number(true)", x.number(true), 78124);
        refused(x, "rename(0, 1, 2, 3, 3)", x.rename(0, 1, 2, 3, 3), 1);
        refused(x, "rename(0, 1, 2, 3, 5)", x.rename(0, 1, 2, 3, 5), 1);
        x.yard(2, 1);
        done(x, "rename(0, 1, 1, 1, 1)", x.rename(0, 1, 1, 1, 1));
        refused(x, "rename(0, 2, 1, 3, 4)", x.rename(0, 2, 1, 3, 4), 1);
    }

    private static void about() {
        Check.part("promise 25");
        DiscYard x = new DiscYard();
        x.yard(3, 2);
        x.lane(0, 1, 5, false);
        x.lane(1, 0, 6, true);
        x.lane(2, 1, 7, true);
        x.kind(0, 1);
        x.stand(4, true);
        x.stand(2, false);
        Check.due("about()", x.about(), 3);
        Check.due("cost(1, 0)", x.cost(1, 0), 5);
        Check.due("cost(0, 1)", x.cost(0, 1), 6);
        Check.due("cost(1, 2)", x.cost(1, 2), 7);
        Check.due("cost(2, 1)", x.cost(2, 1), 0);
        Check.due("number(false)", x.number(false), 4);
        Check.due("number(true)", x.number(true), 2);
        Check.due("why(1, 0), weak", x.why(1, 0), 3);
        Check.due("why(1, 2), STRONG", x.why(1, 2), 0);
        Check.due("about()", x.about(), 3);
        Check.due("number(false)", x.number(false), 2);
        Check.due("cost(2, 1)", x.cost(2, 1), 7);
        x = new DiscYard();
        Check.due("about() without LANES", x.about(), 0);
        x = open(5, 7);
        x.stand(78124, true);
        Check.due("about() of 78,125 STANDS", x.about(), 20);
        Check.due("number(false)", x.number(false), 78124);
    }

    private static void scheme() {
        Check.part("promise 26");
        DiscYard x = new DiscYard();
        for (int k = 0; k < 8; k++) {
            done(x, "scheme()", x.scheme(), k);
            Check.due("size(3)", x.size(3), k + 1);
            done(x, "count", x.count(k, 60), 0);
        }
        refused(x, "scheme() of nine", x.scheme(), 5);
        Check.due("size(3)", x.size(3), 8);
        x.yard(4, 4);
        refused(x, "scheme() behind yard()", x.scheme(), 5);
    }

    private static void single() {
        Check.part("promise 27");
        DiscYard x = new DiscYard();
        refused(x, "single(0, 0, 1) without SCHEMES", x.single(0, 0, 1), 1);
        x.scheme();
        int[] noScheme = {LEAST, -1, 1, 8, MOST};
        for (int w : noScheme) {
            refused(x, "single(" + w + ", 0, 1)", x.single(w, 0, 1), 1);
        }
        int[] noRole = {LEAST, -1, 5, MOST};
        for (int w : noRole) {
            refused(x, "single(0, " + w + ", 1)", x.single(0, w, 1), 1);
            refused(x, "single(0, 1, " + w + ")", x.single(0, 1, w), 1);
        }
        refused(x, "single(0, 3, 3)", x.single(0, 3, 3), 1);
        Check.due("count(0, 1)", x.count(0, 1), 0);
        for (int k = 1; k <= 8; k++) {
            done(x, "single(0, 4, 3)", x.single(0, 4, 3), k);
            done(x, "count(0, 1)", x.count(0, 1), k);
        }
        refused(x, "single of nine", x.single(0, 0, 1), 5);
        refused(x, "single of nine, wrong", x.single(0, 1, 1), 1);
        refused(x, "call of nine", x.call(0, 0, 1, 0, 1, 2, 3, 4), 5);
        Check.due("count(0, 1)", x.count(0, 1), 8);
    }

    private static void call() {
        Check.part("promise 28");
        DiscYard x = new DiscYard();
        refused(x, "call without SCHEMES", x.call(0, 0, 1, 0, 1, 2, 3, 4), 1);
        x.scheme();
        int[] noScheme = {LEAST, -1, 1, 8, MOST};
        for (int w : noScheme) {
            refused(x, "call of " + w, x.call(0, w, 1, 0, 1, 2, 3, 4), 1);
            refused(x, "call in " + w, x.call(w, 0, 1, 0, 1, 2, 3, 4), 1);
        }
        int[] noLess = {LEAST, -1, 0, 5, MOST};
        for (int w : noLess) {
            refused(x, "call less by " + w, x.call(0, 0, w, 0, 1, 2, 3, 4), 1);
        }
        int[] noRole = {LEAST, -1, 5, 32, MOST};
        for (int w : noRole) {
            refused(x, "call a", x.call(0, 0, 1, w, 1, 2, 3, 4), 1);
            refused(x, "call b", x.call(0, 0, 1, 0, w, 2, 3, 4), 1);
            refused(x, "call c", x.call(0, 0, 1, 0, 1, w, 3, 4), 1);
            refused(x, "call d", x.call(0, 0, 1, 0, 1, 2, w, 4), 1);
            refused(x, "call e", x.call(0, 0, 1, 0, 1, 2, 3, w), 1);
        }
        refused(x, "call a is b", x.call(0, 0, 1, 1, 1, 2, 3, 4), 1);
        refused(x, "call d is e", x.call(0, 0, 1, 0, 1, 2, 4, 4), 1);
        x.scheme();
        x.single(1, 0, 1);
        for (int k = 1; k <= 8; k++) {
            done(x, "call", x.call(0, 1, 1 + k % 4, 4, 3, 2, 1, 0), k);
        }
        refused(x, "call of nine", x.call(0, 1, 1, 0, 1, 2, 3, 4), 5);
        refused(x, "call of nine, wrong", x.call(0, 1, 0, 0, 1, 2, 3, 4), 1);
        refused(x, "single of nine", x.single(0, 0, 1), 5);
        int[] byHeight = {0, 0, 2, 4, 6, 8, 8};
        for (int h = 0; h < byHeight.length; h++) {
            done(x, "count(0, " + h + ")", x.count(0, h), byHeight[h]);
        }
    }

    /** SCHEME number 'at' becomes the one that moves a tower by three pegs. */
    private static void tower(DiscYard x, int at) {
        Check.due("scheme()", x.scheme(), at);
        Check.due("call", x.call(at, at, 1, 0, 2, 1, 3, 4), 1);
        Check.due("single", x.single(at, 0, 1), 2);
        Check.due("call", x.call(at, at, 1, 2, 1, 0, 3, 4), 3);
    }

    private static void count() {
        Check.part("promise 29");
        DiscYard x = new DiscYard();
        refused(x, "count without SCHEMES", x.count(0, 1), 1);
        tower(x, 0);
        for (int h = 0; h < 60; h++) {
            done(x, "count(0, " + h + ")", x.count(0, h), Math.min((1L << h) - 1, 1000000000000000000L));
        }
        done(x, "count(0, 60)", x.count(0, 60), 1000000000000000000L);
        done(x, "count(0, 3) behind 60", x.count(0, 3), 7);
        int[] noHeight = {LEAST, -1, 61, 62, MOST};
        for (int w : noHeight) {
            refused(x, "count(0, " + w + ")", x.count(0, w), 1);
        }
        int[] noScheme = {LEAST, -1, 1, 7, 8, MOST};
        for (int w : noScheme) {
            refused(x, "count(" + w + ", 1)", x.count(w, 1), 1);
        }
        // Two schemes that call one another, one of them by lesser heights: 1 + 3 of the other's.
        x = new DiscYard();
        x.scheme();
        x.scheme();
        x.single(0, 0, 1);
        x.call(0, 1, 2, 0, 1, 2, 3, 4);
        x.call(1, 0, 1, 0, 1, 2, 3, 4);
        x.call(1, 0, 4, 0, 1, 2, 3, 4);
        int[] zero = {0, 1, 1, 1, 2, 2, 2};
        int[] one = {0, 0, 1, 1, 1, 3, 3};
        for (int h = 0; h < zero.length; h++) {
            done(x, "count(0, " + h + ")", x.count(0, h), zero[h]);
            done(x, "count(1, " + h + ")", x.count(1, h), one[h]);
        }
        x.single(1, 2, 3);
        done(x, "count(1, 1) with a step more", x.count(1, 1), 1);
    }

    private static void countToTheGreatest() {
        Check.part("promise 29, the greatest count");
        DiscYard x = new DiscYard();
        for (int k = 0; k < 8; k++) {
            x.scheme();
        }
        x.single(0, 0, 1);
        for (int k = 0; k < 5; k++) {
            x.call(0, 0, 1, 0, 1, 2, 3, 4);
        }
        x.single(1, 0, 1);
        for (int k = 0; k < 4; k++) {
            x.call(1, 0, 1, 0, 1, 2, 3, 4);
        }
        for (int s = 2; s < 8; s++) {
            for (int k = 0; k < 8; k++) {
                x.call(s, s - 1, 1, 0, 1, 2, 3, 4);
            }
        }
        // 8 to the 6 times 5 to the (height - 7).
        done(x, "count(7, 6)", x.count(7, 6), 0);
        done(x, "count(7, 7)", x.count(7, 7), 262144);
        done(x, "count(7, 24)", x.count(7, 24), 200000000000000000L);
        done(x, "count(7, 25)", x.count(7, 25), 1000000000000000000L);
        done(x, "count(7, 26)", x.count(7, 26), 1000000000000000000L);
        done(x, "count(7, 60)", x.count(7, 60), 1000000000000000000L);
        done(x, "count(2, 60)", x.count(2, 60), 1000000000000000000L);
    }

    private static void tried() {
        Check.part("promise 30");
        DiscYard x = new DiscYard();
        refused(x, "tried without SCHEMES", x.tried(0, 1, 0, 1, 2, 3, 4), 1);
        x = open(3, 7);
        tower(x, 0);
        x.stand(5, false);
        x.stand(9, true);
        x.move(2, 1);
        for (int h = 1; h <= 7; h++) {
            done(x, "tried at " + h, x.tried(0, h, 0, 1, 2, LEAST, MOST), power(2, h) - 1);
            done(x, "tried at " + h, x.tried(0, h, 2, 0, 1, 0, 0), power(2, h) - 1);
        }
        Check.due("number(false)", x.number(false), 4);
        Check.due("number(true)", x.number(true), 9);
        Check.due("size(4)", x.size(4), 1);
        int[] noHeight = {LEAST, -1, 0, 8, MOST};
        for (int w : noHeight) {
            refused(x, "tried at " + w, x.tried(0, w, 0, 1, 2, 3, 4), 1);
        }
        int[] noScheme = {LEAST, -1, 1, 8, MOST};
        for (int w : noScheme) {
            refused(x, "tried of " + w, x.tried(w, 1, 0, 1, 2, 3, 4), 1);
        }
        int[][] wrong = {{0, 1, 1}, {0, 1, 3}, {-1, 1, 2}, {0, MOST, 2}, {LEAST, 0, 1}, {0, 33, 2}};
        for (int[] w : wrong) {
            refused(x, "tried with wrong pegs", x.tried(0, 1, w[0], w[1], w[2], 3, 4), 1);
        }
        x.scheme();
        done(x, "tried without STEPS", x.tried(1, 7, 0, 1, 2, 3, 4), -3);
        x.single(1, 0, 1);
        done(x, "tried, alone", x.tried(1, 1, 0, 1, 2, 3, 4), 1);
        done(x, "tried, another on top", x.tried(1, 2, 0, 1, 2, 3, 4), -2);
        x.single(1, 1, 2);
        done(x, "tried, ends elsewhere", x.tried(1, 1, 0, 1, 2, 3, 4), -3);
        x.single(1, 2, 3);
        done(x, "tried, no PEG", x.tried(1, 1, 0, 1, 2, 3, 4), -2);
        Check.due("failed()", x.failed(), 2);
        x.scheme();
        x.call(2, 1, 1, 3, 4, 0, 1, 2);
        done(x, "tried, no PEG by a CALL's roles", x.tried(2, 2, 0, 1, 2, 3, 4), -2);
        Check.due("failed()", x.failed(), 0);
        done(x, "tried, a CALL at 0", x.tried(2, 1, 0, 1, 2, 3, 4), -3);
        x.yard(5, 2);
        x.lanes();
        done(x, "tried, those are PEGS now, but empty", x.tried(2, 2, 3, 4, 2, 0, 1), -2);
        x.scheme();
        x.call(3, 1, 1, 0, 3, 4, 1, 2);
        done(x, "tried, roles of roles", x.tried(3, 2, 3, 4, 2, 0, 1), -3);
        x.call(3, 1, 1, 1, 3, 4, 0, 2);
        x.single(3, 0, 2);
        done(x, "tried, back by roles of roles", x.tried(3, 2, 3, 4, 2, 0, 1), -2);
        Check.due("failed()", x.failed(), 6);
        refused(x, "tried, five pegs", x.tried(2, 2, 3, 4, 2, 0, 0), 1);
        x.yard(2, 1);
        x.lane(1, 0, 1, false);
        done(x, "tried of two pegs", x.tried(0, 1, 1, 0, 9, 9, 9), 1);
        done(x, "tried of two pegs, no LANE", x.tried(0, 1, 0, 1, 9, 9, 9), -2);
    }

    private static void triedByKinds() {
        Check.part("promise 30, KINDS");
        DiscYard x = open(3, 3);
        tower(x, 0);
        x.kind(0, 3);
        x.kind(1, 3);
        done(x, "a PACK of more", x.tried(0, 1, 0, 1, 2, 3, 4), -2);
        Check.due("failed()", x.failed(), 0);
        x.kind(1, 0);
        done(x, "STICKY alone", x.tried(0, 3, 0, 1, 2, 3, 4), 7);
        x.kind(2, 1);
        x.lane(0, 1, 1, false);
        done(x, "HEAVY along a weak LANE", x.tried(0, 3, 0, 1, 2, 3, 4), -2);
        Check.due("failed()", x.failed(), 3);
        done(x, "HEAVY along a STRONG one", x.tried(0, 3, 0, 2, 1, 3, 4), 7);
        // All lie on role 0's PEG, though that STAND wouldn't be RIGHT.
        x = open(3, 2);
        tower(x, 0);
        x.stand(1, false);
        x.stand(1, true);
        x.kind(1, 2);
        done(x, "off a RINGED one", x.tried(0, 1, 0, 1, 2, 3, 4), 1);
        done(x, "onto a RINGED one", x.tried(0, 2, 0, 1, 2, 3, 4), -2);
        Check.due("failed()", x.failed(), 2);
    }

    private static void calls(DiscYard x, int scheme, int of, int less, int times) {
        for (int k = 0; k < times; k++) {
            Check.due("call", x.call(scheme, of, less, 0, 1, 2, 3, 4) > 0, true);
        }
    }

    /** Which ends a try of 1 + 4,681 + 4 * 73 + 2 * 9 = 4,992 CALLS and those of one SCHEME more. */
    private static DiscYard nearly5000(int empties, boolean badMove) {
        DiscYard x = open(3, 7);
        for (int k = 0; k < 4; k++) {
            x.scheme();
        }
        calls(x, 0, 0, 1, 8);
        calls(x, 2, 1, 1, empties);
        if (badMove) {
            x.single(2, 1, 0);
        }
        calls(x, 3, 0, 1, 1);
        calls(x, 3, 0, 3, 4);
        calls(x, 3, 0, 4, 2);
        calls(x, 3, 2, 1, 1);
        return x;
    }

    private static void triedOf5000() {
        Check.part("promise 30, 5,000 MOVES and CALLS");
        DiscYard x = nearly5000(7, false);
        done(x, "5,000 CALLS", x.tried(3, 6, 0, 1, 2, 3, 4), -3);
        done(x, "more CALLS", x.tried(3, 7, 0, 1, 2, 3, 4), -4);
        Check.due("failed()", x.failed(), -1);
        x = nearly5000(8, false);
        done(x, "5,001 CALLS", x.tried(3, 6, 0, 1, 2, 3, 4), -4);
        x = nearly5000(6, true);
        done(x, "the 5,000th is a MOVE that can't be", x.tried(3, 6, 0, 1, 2, 3, 4), -2);
        Check.due("failed()", x.failed(), 0);
        x = nearly5000(7, true);
        done(x, "the 5,001st is a MOVE that can't be", x.tried(3, 6, 0, 1, 2, 3, 4), -4);
        Check.due("failed()", x.failed(), -1);
        // A tower of 7 (127 MOVES, 127 CALLS), 4,681 CALLS, 1 + 8 * 8 CALLS: 5,000.
        x = open(3, 7);
        tower(x, 0);
        for (int k = 1; k < 6; k++) {
            x.scheme();
        }
        calls(x, 1, 1, 1, 8);
        calls(x, 3, 2, 1, 7);
        calls(x, 4, 3, 1, 8);
        x.call(5, 0, 1, 0, 2, 1, 3, 4);
        x.single(5, 0, 1);
        x.call(5, 0, 1, 2, 1, 0, 3, 4);
        calls(x, 5, 1, 2, 1);
        calls(x, 5, 4, 1, 1);
        done(x, "127 MOVES within 5,000", x.tried(5, 7, 0, 1, 2, 3, 4), 127);
        calls(x, 5, 2, 1, 1);
        done(x, "127 MOVES within 5,001", x.tried(5, 7, 0, 1, 2, 3, 4), -4);
    }

    private static void failed() {
        Check.part("promise 31");
        DiscYard x = open(3, 3);
        tower(x, 0);
        Check.due("failed() ahead of a try", x.failed(), -1);
        x.lane(1, 2, 0, true);
        done(x, "tried", x.tried(0, 3, 0, 1, 2, 3, 4), -2);
        Check.due("failed()", x.failed(), 2);
        Check.due("failed() again", x.failed(), 2);
        x.lanes();
        x.move(0, 1);
        x.yard(3, 2);
        Check.due("failed() behind other calls", x.failed(), 2);
        refused(x, "tried", x.tried(0, 9, 0, 1, 2, 3, 4), 1);
        Check.due("failed() behind a refused try", x.failed(), -1);
        done(x, "tried", x.tried(0, 1, 0, 1, 2, 3, 4), -2);
        Check.due("failed()", x.failed(), 0);
        x.lanes();
        done(x, "tried", x.tried(0, 2, 0, 1, 2, 3, 4), 3);
        Check.due("failed() behind a good try", x.failed(), -1);
    }

    private static void trouble() {
        Check.part("promise 32");
        DiscYard x = open(3, 2);
        x.yard(9, 9);
        Check.due("trouble()", x.trouble(), 1);
        Check.due("trouble() again", x.trouble(), 1);
        x.lanes();
        x.undo();
        x.redo();
        x.moves();
        x.number(true);
        x.cost(9, 9);
        x.why(9, 9);
        x.peg(9);
        x.disc(9, 9);
        x.planned(9);
        x.size(9);
        x.failed();
        x.about();
        Check.due("trouble() behind calls that tell none", x.trouble(), 1);
        x.move(0, 1);
        Check.due("trouble()", x.trouble(), 0);
        x.move(0, 1);
        Check.due("trouble()", x.trouble(), 4);
        x.stand(8, true);
        Check.due("trouble()", x.trouble(), 0);
        x.joined(9);
        Check.due("trouble()", x.trouble(), 1);
        x.far();
        Check.due("trouble()", x.trouble(), 0);
    }

    private static void size() {
        Check.part("promise 33");
        DiscYard x = open(4, 7);
        x.scheme();
        x.scheme();
        x.kind(0, 1);
        x.kind(3, 3);
        x.kind(6, 1);
        x.stand(1, true);
        x.plan();
        x.move(0, 1);
        x.move(0, 2);
        x.move(1, 2);
        x.undo();
        sizes(x, 4, 7, 12, 2, 2, 1, 1, 1 + 3 * 64 + 4096);
        int[] wrong = {LEAST, -1, 8, 9, MOST};
        for (int w : wrong) {
            Check.due("size(" + w + ")", x.size(w), -1);
        }
        x.yard(2, 2);
        sizes(x, 2, 2, 0, 2, 0, 0, 1, 0);
    }

    private static void tooManyStands() {
        Check.part("78,125 STANDS");
        DiscYard x = open(5, 7);
        refused(x, "fewest()", x.fewest(), 2);
        refused(x, "plan()", x.plan(), 2);
        refused(x, "ways()", x.ways(), 2);
        refused(x, "reach()", x.reach(), 2);
        refused(x, "far()", x.far(), 2);
        refused(x, "farthest()", x.farthest(), 2);
        int[] what = {LEAST, -1, 0, 1, 2, 3, 4, MOST};
        for (int w : what) {
            refused(x, "joined(" + w + ")", x.joined(w), 2);
        }
        done(x, "move(0, 4)", x.move(0, 4), 1);
        Check.due("moves()", x.moves(), 7);
        tower(x, 0);
        done(x, "tried", x.tried(0, 7, 4, 3, 2, 1, 0), 127);
        x.yard(5, 6);
        done(x, "fewest() behind", x.fewest(), 0);
    }
}
