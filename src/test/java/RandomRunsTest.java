import java.util.Random;

/** Runs of up to 512 calls with arguments by lot (always the same ones), told by the plain model. */
public final class RandomRunsTest {
    private static final int[] ODD = {Integer.MIN_VALUE, Integer.MAX_VALUE, -1, -2, 5, 6, 7, 8, 9, 61,
        100, 101, 20000, 78125, 1 << 30, Integer.MIN_VALUE + 1};
    private static final int[][] YARDS = {{2, 1}, {2, 3}, {2, 7}, {3, 1}, {3, 2}, {3, 3}, {3, 4}, {4, 1},
        {4, 2}, {4, 3}, {5, 1}, {5, 2}, {5, 3}, {5, 7}};

    private final Random lot;
    private final DiscYard yard = new DiscYard();
    private final PlainYard plain = new PlainYard();
    private final StringBuilder told = new StringBuilder();

    private RandomRunsTest(long seed) {
        lot = new Random(seed);
    }

    public static void main(String[] args) {
        int runs = args.length > 0 ? Integer.parseInt(args[0]) : 600;
        for (int seed = 1; seed <= runs && Check.wrong() == 0; seed++) {
            Check.part("run " + seed);
            new RandomRunsTest(seed).run(seed % 10 == 0 ? 512 : 40 + seed % 150);
        }
        Check.end();
    }

    private void run(int calls) {
        for (int k = 0; k < calls; k++) {
            one();
            Check.due("trouble()", yard.trouble(), plain.trouble());
            Check.due("failed()", yard.failed(), plain.failed());
            Check.due("number(false)", yard.number(false), plain.number(false));
            Check.due("number(true)", yard.number(true), plain.number(true));
            for (int what = 0; what < 8; what++) {
                Check.due("size(" + what + ")", yard.size(what), plain.size(what));
            }
            if (Check.wrong() != 0) {
                System.out.println(told);
                return;
            }
        }
    }

    private String note(String name, int... args) {
        StringBuilder call = new StringBuilder(name).append('(');
        for (int k = 0; k < args.length; k++) {
            call.append(k == 0 ? "" : ", ").append(args[k]);
        }
        call.append(')');
        told.append(call).append("; ");
        return call.toString();
    }

    private int below(int bound) {
        return lot.nextInt(40) == 0 ? ODD[lot.nextInt(ODD.length)] : lot.nextInt(Math.max(bound, 1));
    }

    private int pegNumber() {
        return below(yard.size(0));
    }

    private int[] five(int many) {
        int[] names = {0, 1, 2, 3, 4};
        for (int k = many - 1; k > 0; k--) {
            int other = lot.nextInt(k + 1);
            int old = names[k];
            names[k] = names[other];
            names[other] = old;
        }
        for (int k = many; k < 5; k++) {
            names[k] = lot.nextBoolean() ? k : ODD[lot.nextInt(ODD.length)];
        }
        if (lot.nextInt(15) == 0) {
            names[lot.nextInt(5)] = below(5);
        }
        return names;
    }

    private void one() {
        int pick = lot.nextInt(100);
        if (pick < 30) {
            change(pick);
        } else if (pick < 55) {
            moving(pick - 30);
        } else if (pick < 75) {
            asking();
        } else {
            scheming(pick - 75);
        }
    }

    private void change(int pick) {
        if (pick == 0) {
            int[] size = YARDS[lot.nextInt(YARDS.length)];
            int pegs = lot.nextInt(6) == 0 ? below(7) : size[0];
            int discs = pegs == size[0] ? size[1] : below(4);
            Check.due(note("yard", pegs, discs), yard.yard(pegs, discs), plain.yard(pegs, discs));
        } else if (pick < 5) {
            int disc = below(yard.size(1));
            int kind = below(4);
            Check.due(note("kind", disc, kind), yard.kind(disc, kind), plain.kind(disc, kind));
        } else if (pick < 14) {
            int a = pegNumber();
            int b = pegNumber();
            int cost = lot.nextInt(3) == 0 ? below(101) : below(4);
            boolean strong = lot.nextInt(3) != 0;
            Check.due(note("lane", a, b, cost, strong ? 1 : 0), yard.lane(a, b, cost, strong),
                    plain.lane(a, b, cost, strong));
        } else if (pick < 16) {
            Check.due(note("lanes"), yard.lanes(), plain.lanes());
        } else if (pick < 24) {
            int number = below((int) Math.pow(yard.size(0), yard.size(1)));
            boolean goal = lot.nextInt(3) != 0;
            Check.due(note("stand", number, goal ? 1 : 0), yard.stand(number, goal), plain.stand(number, goal));
        } else if (pick < 27) {
            int[] n = five(yard.size(0));
            Check.due(note("rename", n), yard.rename(n[0], n[1], n[2], n[3], n[4]),
                    plain.rename(n[0], n[1], n[2], n[3], n[4]));
        } else {
            Check.due(note("about"), yard.about(), plain.about());
        }
    }

    private void moving(int pick) {
        int a = pegNumber();
        int b = pegNumber();
        if (pick < 8) {
            Check.due(note("move", a, b), yard.move(a, b), plain.move(a, b));
        } else if (pick < 12) {
            Check.due(note("undo"), yard.undo(), plain.undo());
        } else if (pick < 15) {
            Check.due(note("redo"), yard.redo(), plain.redo());
        } else if (pick < 18) {
            Check.due(note("why", a, b), yard.why(a, b), plain.why(a, b));
        } else if (pick < 20) {
            Check.due(note("cost", a, b), yard.cost(a, b), plain.cost(a, b));
        } else if (pick < 22) {
            int disc = below(yard.size(1) + 1);
            Check.due(note("peg", disc), yard.peg(disc), plain.peg(disc));
        } else if (pick < 24) {
            int k = below(yard.size(1) + 1);
            Check.due(note("disc", a, k), yard.disc(a, k), plain.disc(a, k));
        } else {
            Check.due(note("moves"), yard.moves(), plain.moves());
            int what = below(10);
            Check.due(note("size", what), yard.size(what), plain.size(what));
        }
    }

    private void asking() {
        switch (lot.nextInt(8)) {
            case 0 -> Check.due(note("fewest"), yard.fewest(), plain.fewest());
            case 1 -> {
                Check.due(note("plan"), yard.plan(), plain.plan());
                for (int k = -1; k <= yard.size(6); k++) {
                    Check.due(note("planned", k), yard.planned(k), plain.planned(k));
                }
            }
            case 2 -> {
                int k = below(yard.size(6) + 2);
                Check.due(note("planned", k), yard.planned(k), plain.planned(k));
            }
            case 3 -> Check.due(note("ways"), yard.ways(), plain.ways());
            case 4 -> Check.due(note("reach"), yard.reach(), plain.reach());
            case 5 -> Check.due(note("far"), yard.far(), plain.far());
            case 6 -> Check.due(note("farthest"), yard.farthest(), plain.farthest());
            default -> {
                int what = below(5);
                Check.due(note("joined", what), yard.joined(what), plain.joined(what));
            }
        }
    }

    private void scheming(int pick) {
        int made = yard.size(3);
        int scheme = below(made);
        if (pick < 2) {
            Check.due(note("scheme"), yard.scheme(), plain.scheme());
        } else if (pick == 2 && made < 8) {
            towerScheme();
        } else if (pick < 8) {
            int from = below(lot.nextInt(3) == 0 ? 5 : 3);
            int to = below(lot.nextInt(3) == 0 ? 5 : 3);
            Check.due(note("single", scheme, from, to), yard.single(scheme, from, to),
                    plain.single(scheme, from, to));
        } else if (pick < 12) {
            addCall(scheme, below(made), 1 + below(lot.nextInt(3) == 0 ? 4 : 1), five(5));
        } else if (pick < 16) {
            int height = below(61);
            Check.due(note("count", scheme, height), yard.count(scheme, height), plain.count(scheme, height));
        } else {
            int height = 1 + below(yard.size(1));
            int[] n = five(yard.size(0));
            Check.due(note("tried", scheme, height, n[0], n[1], n[2], n[3], n[4]),
                    yard.tried(scheme, height, n[0], n[1], n[2], n[3], n[4]),
                    plain.tried(scheme, height, n[0], n[1], n[2], n[3], n[4]));
        }
    }

    /** Schemes by lot hardly ever come through, so some are made that do. */
    private void towerScheme() {
        int made = yard.scheme();
        Check.due(note("scheme"), made, plain.scheme());
        addCall(made, made, 1, new int[] {0, 2, 1, 3, 4});
        Check.due(note("single", made, 0, 1), yard.single(made, 0, 1), plain.single(made, 0, 1));
        addCall(made, made, 1, new int[] {2, 1, 0, 3, 4});
    }

    private void addCall(int scheme, int of, int less, int[] n) {
        Check.due(note("call", scheme, of, less, n[0], n[1], n[2], n[3], n[4]),
                yard.call(scheme, of, less, n[0], n[1], n[2], n[3], n[4]),
                plain.call(scheme, of, less, n[0], n[1], n[2], n[3], n[4]));
    }
}
