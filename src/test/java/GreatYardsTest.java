import java.util.Random;

/** Yards of up to 16,384 STANDS with LANES and KINDS by lot, told by the plain model. */
public final class GreatYardsTest {
    private static final int[][] YARDS = {{3, 5}, {4, 4}, {5, 4}, {4, 5}, {3, 6}, {3, 7}, {4, 7}, {5, 6}};
    /** The plain model asks from each stand for each other one. */
    private static final int MOST_JOINED = 1100;

    private GreatYardsTest() {
    }

    public static void main(String[] args) {
        Random lot = new Random(11);
        for (int k = 0; k < 2 * YARDS.length; k++) {
            int[] size = YARDS[k % YARDS.length];
            Check.part(size[0] + " pegs, " + size[1] + " discs, " + k);
            compare(size[0], size[1], lot);
        }
        Check.end();
    }

    private static void compare(int pegs, int discs, Random lot) {
        DiscYard yard = new DiscYard();
        PlainYard plain = new PlainYard();
        Check.due("yard", yard.yard(pegs, discs), plain.yard(pegs, discs));
        int stands = (int) Math.round(Math.pow(pegs, discs));
        int stand = lot.nextInt(stands);
        int goal = lot.nextInt(stands);
        Check.due("stand", yard.stand(stand, false), plain.stand(stand, false));
        Check.due("stand", yard.stand(goal, true), plain.stand(goal, true));
        int favourite = lot.nextInt(4);
        for (int disc = 0; disc < discs; disc++) {
            int kind = lot.nextBoolean() ? favourite : lot.nextInt(4);
            Check.due("kind", yard.kind(disc, kind), plain.kind(disc, kind));
        }
        int missing = lot.nextInt(4);
        int most = lot.nextInt(3) == 0 ? 100 : 1 + lot.nextInt(5);
        for (int a = 0; a < pegs; a++) {
            for (int b = 0; b < pegs; b++) {
                int cost = lot.nextInt(8) < missing ? 0 : 1 + lot.nextInt(most);
                boolean strong = lot.nextInt(4) != 0;
                Check.due("lane", yard.lane(a, b, cost, strong), plain.lane(a, b, cost, strong));
            }
        }
        ask(yard, plain, stands);
    }

    private static void ask(DiscYard yard, PlainYard plain, int stands) {
        Check.due("fewest()", yard.fewest(), plain.fewest());
        Check.due("ways()", yard.ways(), plain.ways());
        Check.due("plan()", yard.plan(), plain.plan());
        for (int k = -1; k <= plain.size(6) && k < 400; k++) {
            Check.due("planned(" + k + ")", yard.planned(k), plain.planned(k));
        }
        Check.due("reach()", yard.reach(), plain.reach());
        Check.due("far()", yard.far(), plain.far());
        Check.due("farthest()", yard.farthest(), plain.farthest());
        for (int what = 0; what < 4 && stands <= MOST_JOINED; what++) {
            Check.due("joined(" + what + ")", yard.joined(what), plain.joined(what));
        }
    }
}
