import java.util.Random;

/** Runs of up to 512 calls with arguments by lot (always the same ones), told by the plain model. */
public final class RandomRunsTest {
    private static final int[] ODD = {Integer.MIN_VALUE, Integer.MAX_VALUE, -1, -2, 5, 6, 7, 8, 9, 61,
        100, 101, 20000, 78125, 1 << 30, Integer.MIN_VALUE + 1};
    private static final int[][] YARDS = {{2, 1}, {2, 3}, {2, 6}, {2, 7}, {3, 1}, {3, 2}, {3, 3}, {3, 4}, {4, 1},
        {4, 2}, {4, 3}, {4, 4}, {5, 1}, {5, 2}, {5, 3}, {5, 7}};

    private final Random lot;
    private final DiscYard yard = new DiscYard();
    private final PlainYard plain = new PlainYard();
    private final StringBuilder told = new StringBuilder();
    /** How much of a run each sort of call is: undoing needs runs that seldom change the yard. */
    private final int changing;
    private final int moving;
    private final int asking;
    private final int scheming;
    private final int favouriteKind;
    private int calls;

    private RandomRunsTest(long seed) {
        lot = new Random(seed);
        changing = 1 + lot.nextInt(lot.nextBoolean() ? 3 : 40);
        moving = 1 + lot.nextInt(60);
        asking = 1 + lot.nextInt(40);
        scheming = 1 + lot.nextInt(40);
        favouriteKind = lot.nextInt(8);
    }

    public static void main(String[] args) {
        int runs = args.length > 0 ? Integer.parseInt(args[0]) : 1000;
        for (int seed = 1; seed <= runs && Check.wrong() == 0; seed++) {
            Check.part("run " + seed);
            new RandomRunsTest(seed).run(seed % 3 == 0 ? 500 : 40 + seed % 150);
        }
        Check.end();
    }

    /** Most runs begin in a yard with something to do: by lot alone they seldom come to one. */
    private void begin() {
        newYard();
        if (lot.nextInt(4) != 0) {
            Check.due(note("lanes"), yard.lanes(), plain.lanes());
        }
        for (int k = lot.nextInt(4); k > 0; k--) {
            newStand();
        }
        for (int k = lot.nextInt(2 * plain.size(1)); k > 0; k--) {
            newKind();
        }
        for (int k = lot.nextInt(8); k > 0; k--) {
            change(5 + lot.nextInt(9));
        }
    }

    private void newYard() {
        int[] size = YARDS[lot.nextInt(YARDS.length)];
        int pegs = size[0];
        int discs = size[1];
        if (lot.nextInt(9) == 0) {
            pegs = below(7);
            discs = below(4);
        }
        if (discs > 4 && discs < 8 && pegs > 2 && pegs < 6 && pegs + discs != 12) {
            // The plain model takes minutes for the greater yards.
            discs = 3;
        }
        Check.due(note("yard", pegs, discs), yard.yard(pegs, discs), plain.yard(pegs, discs));
    }

    private void newKind() {
        int disc = below(plain.size(1));
        int kind = favouriteKind < 4 && lot.nextInt(3) != 0 ? favouriteKind : below(4);
        Check.due(note("kind", disc, kind), yard.kind(disc, kind), plain.kind(disc, kind));
    }

    private void newStand() {
        int number = below((int) Math.pow(plain.size(0), plain.size(1)));
        boolean goal = lot.nextInt(3) != 0;
        Check.due(note("stand", number, goal ? 1 : 0), yard.stand(number, goal), plain.stand(number, goal));
    }

    private void run(int most) {
        if (lot.nextInt(10) != 0) {
            begin();
        }
        while (calls < most && Check.wrong() == 0) {
            one();
            calls++;
            Check.due("trouble()", yard.trouble(), plain.trouble());
            if (lot.nextInt(6) == 0) {
                state();
            }
        }
        if (Check.wrong() != 0) {
            System.out.println(told);
        }
    }

    private void state() {
        calls += 11;
        Check.due("failed()", yard.failed(), plain.failed());
        Check.due("number(false)", yard.number(false), plain.number(false));
        Check.due("number(true)", yard.number(true), plain.number(true));
        for (int what = 0; what < 8; what++) {
            Check.due("size(" + what + ")", yard.size(what), plain.size(what));
        }
    }

    private String note(String name, int... args) {
        StringBuilder call = new StringBuilder(name).append('(');
        for (int k = 0; k < args.length; k++) {
            call.append(k == 0 ? "" : ", ").append(args[k]);
        }
        call.append(')');
        calls++;
        told.append(call).append("; ");
        return call.toString();
    }

    private int below(int bound) {
        return lot.nextInt(40) == 0 ? ODD[lot.nextInt(ODD.length)] : lot.nextInt(Math.max(bound, 1));
    }

    private int pegNumber() {
        return below(plain.size(0));
    }

    private int[] five(int many) {
        int[] names = {0, 1, 2, 3, 4};
        for (int k = many - 1; k > 0; k--) {
            int other = lot.nextInt(k + 1);
            int old = names[k];
            names[k] = names[other];
            names[other] = old;
        }
        for (int k = many; k < 5; k++) {
            names[k] = lot.nextBoolean() ? k : ODD[lot.nextInt(ODD.length)];
        }
        if (lot.nextInt(15) == 0) {
            names[lot.nextInt(5)] = below(5);
        }
        return names;
    }

    private void one() {
        int pick = lot.nextInt(changing + moving + asking + scheming);
        if (pick < changing) {
            change(lot.nextInt(30));
        } else if (pick < changing + moving) {
            moveAbout(lot.nextInt(25));
        } else if (pick < changing + moving + asking) {
            ask();
        } else {
            makeSchemes(lot.nextInt(25));
        }
    }

    private void change(int pick) {
        if (pick == 0) {
            newYard();
        } else if (pick < 5) {
            newKind();
        } else if (pick < 14) {
            int a = pegNumber();
            int b = pegNumber();
            int cost = lot.nextInt(3) == 0 ? below(101) : below(4);
            boolean strong = lot.nextInt(3) != 0;
            Check.due(note("lane", a, b, cost, strong ? 1 : 0), yard.lane(a, b, cost, strong),
                    plain.lane(a, b, cost, strong));
        } else if (pick < 16) {
            Check.due(note("lanes"), yard.lanes(), plain.lanes());
        } else if (pick < 24) {
            newStand();
        } else if (pick < 27) {
            int[] n = five(plain.size(0));
            Check.due(note("rename", n), yard.rename(n[0], n[1], n[2], n[3], n[4]),
                    plain.rename(n[0], n[1], n[2], n[3], n[4]));
        } else {
            Check.due(note("about"), yard.about(), plain.about());
        }
    }

    private void moveAbout(int pick) {
        int a = pegNumber();
        int b = pegNumber();
        for (int k = 0; k < 6 && plain.why(a, b) > 0; k++) {
            a = pegNumber();
            b = pegNumber();
        }
        if (pick < 8) {
            Check.due(note("move", a, b), yard.move(a, b), plain.move(a, b));
        } else if (pick < 12) {
            Check.due(note("undo"), yard.undo(), plain.undo());
        } else if (pick < 15) {
            Check.due(note("redo"), yard.redo(), plain.redo());
        } else if (pick < 18) {
            Check.due(note("why", a, b), yard.why(a, b), plain.why(a, b));
        } else if (pick < 20) {
            Check.due(note("cost", a, b), yard.cost(a, b), plain.cost(a, b));
        } else if (pick < 22) {
            int disc = below(plain.size(1) + 1);
            Check.due(note("peg", disc), yard.peg(disc), plain.peg(disc));
        } else if (pick < 24) {
            int k = below(plain.size(1) + 1);
            Check.due(note("disc", a, k), yard.disc(a, k), plain.disc(a, k));
        } else {
            Check.due(note("moves"), yard.moves(), plain.moves());
            int what = below(10);
            Check.due(note("size", what), yard.size(what), plain.size(what));
        }
    }

    private void ask() {
        switch (lot.nextInt(8)) {
            case 0 -> Check.due(note("fewest"), yard.fewest(), plain.fewest());
            case 1 -> {
                Check.due(note("plan"), yard.plan(), plain.plan());
                for (int k = -1; k <= Math.min(plain.size(6), 6); k++) {
                    Check.due(note("planned", k), yard.planned(k), plain.planned(k));
                }
            }
            case 2 -> {
                int k = below(plain.size(6) + 2);
                Check.due(note("planned", k), yard.planned(k), plain.planned(k));
            }
            case 3 -> Check.due(note("ways"), yard.ways(), plain.ways());
            case 4 -> Check.due(note("reach"), yard.reach(), plain.reach());
            case 5 -> Check.due(note("far"), yard.far(), plain.far());
            case 6 -> Check.due(note("farthest"), yard.farthest(), plain.farthest());
            default -> {
                int what = below(5);
                Check.due(note("joined", what), yard.joined(what), plain.joined(what));
            }
        }
    }

    private void makeSchemes(int pick) {
        int made = plain.size(3);
        int scheme = below(made);
        if (pick < 2) {
            Check.due(note("scheme"), yard.scheme(), plain.scheme());
        } else if (pick == 2 && made < 8) {
            if (lot.nextInt(4) == 0) {
                bushScheme();
            } else {
                towerScheme();
            }
        } else if (pick < 8) {
            int from = below(lot.nextInt(3) == 0 ? 5 : 3);
            int to = below(lot.nextInt(3) == 0 ? 5 : 3);
            Check.due(note("single", scheme, from, to), yard.single(scheme, from, to),
                    plain.single(scheme, from, to));
        } else if (pick < 12) {
            addCall(scheme, below(made), 1 + below(lot.nextInt(3) == 0 ? 4 : 1), five(5));
        } else if (pick < 16) {
            int height = below(61);
            Check.due(note("count", scheme, height), yard.count(scheme, height), plain.count(scheme, height));
        } else {
            int height = 1 + below(plain.size(1));
            int[] n = five(plain.size(0));
            Check.due(note("tried", scheme, height, n[0], n[1], n[2], n[3], n[4]),
                    yard.tried(scheme, height, n[0], n[1], n[2], n[3], n[4]),
                    plain.tried(scheme, height, n[0], n[1], n[2], n[3], n[4]));
        }
    }

    /** Schemes by lot hardly ever come through, so some are made that do. */
    private void towerScheme() {
        int made = yard.scheme();
        Check.due(note("scheme"), made, plain.scheme());
        addCall(made, made, 1, new int[] {0, 2, 1, 3, 4});
        Check.due(note("single", made, 0, 1), yard.single(made, 0, 1), plain.single(made, 0, 1));
        addCall(made, made, 1, new int[] {2, 1, 0, 3, 4});
    }

    /** Begins more than 5,000 CALLS at heights of six and more. */
    private void bushScheme() {
        int made = yard.scheme();
        Check.due(note("scheme"), made, plain.scheme());
        for (int k = 0; k < 6; k++) {
            addCall(made, made, 1, five(5));
        }
    }

    private void addCall(int scheme, int of, int less, int[] n) {
        Check.due(note("call", scheme, of, less, n[0], n[1], n[2], n[3], n[4]),
                yard.call(scheme, of, less, n[0], n[1], n[2], n[3], n[4]),
                plain.call(scheme, of, less, n[0], n[1], n[2], n[3], n[4]));
    }
}
