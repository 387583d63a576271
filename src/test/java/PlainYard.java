import java.math.BigInteger;
import java.util.ArrayDeque;
import java.util.ArrayList;
import java.util.Arrays;
import java.util.BitSet;
import java.util.Deque;
import java.util.HashMap;
import java.util.HashSet;
import java.util.List;
import java.util.Map;
import java.util.Set;
import java.util.TreeMap;

/**
 * The document once more, as slow and as unlike DiscYard as can be: stands are piles that are really
 * moved about, costs are lowered until nothing changes, rows are counted from the goal backwards.
 */
final class PlainYard {
    private static final BigInteger MOST = BigInteger.TEN.pow(18);

    private record Lane(int cost, boolean strong) {
    }

    private record Done(int a, int b, int discs) {
    }

    private record Edge(int code, int target, int cost) {
    }

    private record Step(int of, int less, List<Integer> roles) {
    }

    private static final class Stopped extends RuntimeException {
        private static final long serialVersionUID = 1L;
        private final int answer;

        Stopped(int answer) {
            super(null, null, false, false);
            this.answer = answer;
        }
    }

    private int pegs = 3;
    private int discs = 1;
    private int[] kinds = new int[1];
    private final Map<Integer, Lane> lanes = new TreeMap<>();
    private List<List<Integer>> stand;
    private List<List<Integer>> goal;
    private final Deque<Done> done = new ArrayDeque<>();
    private final Deque<Done> undone = new ArrayDeque<>();
    private List<Integer> thePlan = new ArrayList<>();
    private final List<List<Step>> schemes = new ArrayList<>();
    private int failedAt = -1;
    private int trouble;
    /** All moves of all RIGHT stands; null when the yard has changed. */
    private Map<Integer, List<Edge>> graph;

    PlainYard() {
        stand = piles(0);
        goal = piles(0);
    }

    // ---- piles

    private List<List<Integer>> piles(int number) {
        List<List<Integer>> piles = new ArrayList<>();
        for (int p = 0; p < pegs; p++) {
            piles.add(new ArrayList<>());
        }
        for (int disc = discs - 1; disc >= 0; disc--) {
            int digit = number / power(pegs, disc) % pegs;
            piles.get(digit).add(disc);
        }
        return piles;
    }

    private int numberOf(List<List<Integer>> piles) {
        int sum = 0;
        for (int p = 0; p < pegs; p++) {
            for (int disc : piles.get(p)) {
                sum += p * power(pegs, disc);
            }
        }
        return sum;
    }

    private static int power(int base, int exponent) {
        return BigInteger.valueOf(base).pow(exponent).intValue();
    }

    private int stands() {
        return power(pegs, discs);
    }

    private boolean right(List<List<Integer>> piles) {
        for (List<Integer> pile : piles) {
            for (int k = 0; k + 1 < pile.size(); k++) {
                if (kinds[pile.get(k)] == 2 && kinds[pile.get(k + 1)] != 2) {
                    return false;
                }
            }
        }
        return true;
    }

    private List<Integer> pack(List<Integer> pile) {
        List<Integer> pack = new ArrayList<>();
        int at = pile.size() - 1;
        pack.add(pile.get(at));
        while (at > 0 && kinds[pile.get(at)] == 3 && kinds[pile.get(at - 1)] == 3
                && pile.get(at - 1) == pile.get(at) + 1) {
            at--;
            pack.add(0, pile.get(at));
        }
        return pack;
    }

    private int reason(List<List<Integer>> piles, int a, int b) {
        Lane lane = lanes.get(10 * a + b);
        if (lane == null) {
            return 1;
        }
        if (piles.get(a).isEmpty()) {
            return 2;
        }
        List<Integer> pack = pack(piles.get(a));
        for (int disc : pack) {
            if ((kinds[disc] == 1 || kinds[disc] == 2) && !lane.strong) {
                return 3;
            }
        }
        List<Integer> onto = piles.get(b);
        if (onto.isEmpty()) {
            return 0;
        }
        int top = onto.get(onto.size() - 1);
        if (top < pack.get(0)) {
            return 4;
        }
        return kinds[top] == 2 && kinds[pack.get(0)] != 2 ? 5 : 0;
    }

    private static void carry(List<List<Integer>> piles, int a, int b, int many) {
        List<Integer> from = piles.get(a);
        List<Integer> part = new ArrayList<>(from.subList(from.size() - many, from.size()));
        for (int k = 0; k < many; k++) {
            from.remove(from.size() - 1);
        }
        piles.get(b).addAll(part);
    }

    private boolean isPeg(int p) {
        return p >= 0 && p < pegs;
    }

    private void changed() {
        graph = null;
        done.clear();
        undone.clear();
    }

    private boolean refuse(int number) {
        trouble = number;
        return false;
    }

    private int none(int number) {
        trouble = number;
        return -1;
    }

    // ---- the face

    boolean yard(int newPegs, int newDiscs) {
        if (newPegs < 2 || newPegs > 5 || newDiscs < 1 || newDiscs > 7) {
            return refuse(1);
        }
        pegs = newPegs;
        discs = newDiscs;
        kinds = new int[discs];
        lanes.clear();
        stand = piles(0);
        goal = piles(0);
        changed();
        trouble = 0;
        return true;
    }

    boolean kind(int disc, int kind) {
        if (disc < 0 || disc >= discs || kind < 0 || kind > 3) {
            return refuse(1);
        }
        int[] old = kinds.clone();
        kinds[disc] = kind;
        if (!right(stand) || !right(goal)) {
            kinds = old;
            return refuse(3);
        }
        changed();
        trouble = 0;
        return true;
    }

    boolean lane(int a, int b, int cost, boolean strong) {
        if (!isPeg(a) || !isPeg(b) || a == b || cost < 0 || cost > 100) {
            return refuse(1);
        }
        lanes.remove(10 * a + b);
        if (cost > 0) {
            lanes.put(10 * a + b, new Lane(cost, strong));
        }
        changed();
        trouble = 0;
        return true;
    }

    int lanes() {
        for (int a = 0; a < pegs; a++) {
            for (int b = 0; b < pegs; b++) {
                if (a != b) {
                    lanes.put(10 * a + b, new Lane(1, true));
                }
            }
        }
        changed();
        return pegs * (pegs - 1);
    }

    int cost(int a, int b) {
        if (!isPeg(a) || !isPeg(b)) {
            return -1;
        }
        Lane lane = lanes.get(10 * a + b);
        return lane == null ? 0 : lane.cost;
    }

    boolean stand(int number, boolean isGoal) {
        if (number < 0 || number >= stands()) {
            return refuse(1);
        }
        List<List<Integer>> piles = piles(number);
        if (!right(piles)) {
            return refuse(3);
        }
        if (isGoal) {
            goal = piles;
        } else {
            stand = piles;
            done.clear();
            undone.clear();
        }
        trouble = 0;
        return true;
    }

    int number(boolean isGoal) {
        return numberOf(isGoal ? goal : stand);
    }

    int peg(int disc) {
        for (int p = 0; p < pegs; p++) {
            if (stand.get(p).contains(disc)) {
                return p;
            }
        }
        return -1;
    }

    int disc(int peg, int k) {
        if (!isPeg(peg) || k < 0 || k >= stand.get(peg).size()) {
            return -1;
        }
        return stand.get(peg).get(k);
    }

    int why(int a, int b) {
        return isPeg(a) && isPeg(b) ? reason(stand, a, b) : -1;
    }

    int move(int a, int b) {
        if (!isPeg(a) || !isPeg(b)) {
            return none(1);
        }
        if (reason(stand, a, b) != 0) {
            return none(4);
        }
        int many = pack(stand.get(a)).size();
        carry(stand, a, b, many);
        done.addLast(new Done(a, b, many));
        if (done.size() > 200) {
            done.removeFirst();
        }
        undone.clear();
        trouble = 0;
        return many;
    }

    int undo() {
        if (done.isEmpty()) {
            return 0;
        }
        Done last = done.removeLast();
        carry(stand, last.b, last.a, last.discs);
        undone.addLast(last);
        return 1;
    }

    int redo() {
        if (undone.isEmpty()) {
            return 0;
        }
        Done last = undone.removeLast();
        carry(stand, last.a, last.b, last.discs);
        done.addLast(last);
        return 1;
    }

    int moves() {
        return edges(number(false)).size();
    }

    private List<Edge> edges(int number) {
        List<Edge> edges = new ArrayList<>();
        for (int a = 0; a < pegs; a++) {
            for (int b = 0; b < pegs; b++) {
                List<List<Integer>> piles = piles(number);
                if (reason(piles, a, b) == 0) {
                    carry(piles, a, b, pack(piles.get(a)).size());
                    edges.add(new Edge(10 * a + b, numberOf(piles), lanes.get(10 * a + b).cost));
                }
            }
        }
        return edges;
    }

    private Map<Integer, List<Edge>> graph() {
        if (graph == null) {
            graph = new TreeMap<>();
            for (int s = 0; s < stands(); s++) {
                if (right(piles(s))) {
                    graph.put(s, edges(s));
                }
            }
        }
        return graph;
    }

    private boolean tooMany() {
        trouble = stands() > 20000 ? 2 : 0;
        return trouble != 0;
    }

    private Map<Integer, Integer> costsToGoal() {
        Map<Integer, Integer> costs = new HashMap<>();
        costs.put(number(true), 0);
        boolean more = true;
        while (more) {
            more = false;
            for (Map.Entry<Integer, List<Edge>> entry : graph().entrySet()) {
                for (Edge edge : entry.getValue()) {
                    Integer on = costs.get(edge.target);
                    Integer known = costs.get(entry.getKey());
                    if (on != null && (known == null || on + edge.cost < known)) {
                        costs.put(entry.getKey(), on + edge.cost);
                        more = true;
                    }
                }
            }
        }
        return costs;
    }

    private Map<Integer, Integer> costsFromStand() {
        Map<Integer, Integer> costs = new TreeMap<>();
        costs.put(number(false), 0);
        boolean more = true;
        while (more) {
            more = false;
            for (int s : new ArrayList<>(costs.keySet())) {
                for (Edge edge : graph().get(s)) {
                    int cost = costs.get(s) + edge.cost;
                    if (!costs.containsKey(edge.target) || costs.get(edge.target) > cost) {
                        costs.put(edge.target, cost);
                        more = true;
                    }
                }
            }
        }
        return costs;
    }

    int fewest() {
        return tooMany() ? -1 : costsToGoal().getOrDefault(number(false), -2);
    }

    int plan() {
        if (tooMany()) {
            return -1;
        }
        Map<Integer, Integer> costs = costsToGoal();
        int at = number(false);
        if (!costs.containsKey(at)) {
            return -2;
        }
        thePlan = new ArrayList<>();
        while (at != number(true)) {
            Edge first = null;
            for (Edge edge : graph().get(at)) {
                if (first == null && costs.containsKey(edge.target)
                        && costs.get(at) == edge.cost + costs.get(edge.target)) {
                    first = edge;
                }
            }
            thePlan.add(first.code);
            at = first.target;
        }
        return thePlan.size();
    }

    int planned(int k) {
        return k >= 0 && k < thePlan.size() ? thePlan.get(k) : -1;
    }

    long ways() {
        return tooMany() ? -1 : exactWays().longValue();
    }

    BigInteger exactWays() {
        Map<Integer, Integer> costs = costsToGoal();
        if (!costs.containsKey(number(false))) {
            return BigInteger.ZERO;
        }
        List<Integer> nearFirst = new ArrayList<>(costs.keySet());
        nearFirst.sort((x, y) -> Integer.compare(costs.get(x), costs.get(y)));
        Map<Integer, BigInteger> rows = new HashMap<>();
        for (int s : nearFirst) {
            BigInteger sum = s == number(true) ? BigInteger.ONE : BigInteger.ZERO;
            for (Edge edge : graph().get(s)) {
                Integer on = costs.get(edge.target);
                if (on != null && on + edge.cost == costs.get(s)) {
                    sum = sum.add(rows.get(edge.target));
                }
            }
            rows.put(s, sum);
        }
        return rows.get(number(false));
    }

    int reach() {
        return tooMany() ? -1 : costsFromStand().size();
    }

    int far() {
        return tooMany() ? -1 : costsFromStand().values().stream().max(Integer::compare).get();
    }

    int farthest() {
        if (tooMany()) {
            return -1;
        }
        int far = far();
        return costsFromStand().entrySet().stream().filter(e -> e.getValue() == far)
                .mapToInt(Map.Entry::getKey).min().getAsInt();
    }

    private BitSet allFrom(int start) {
        BitSet seen = new BitSet();
        seen.set(start);
        Deque<Integer> open = new ArrayDeque<>(List.of(start));
        while (!open.isEmpty()) {
            for (Edge edge : graph().get(open.remove())) {
                if (!seen.get(edge.target)) {
                    seen.set(edge.target);
                    open.add(edge.target);
                }
            }
        }
        return seen;
    }

    int joined(int what) {
        if (tooMany()) {
            return -1;
        }
        if (what < 0 || what > 3) {
            return none(1);
        }
        Map<Integer, BitSet> reached = new TreeMap<>();
        for (int s : graph().keySet()) {
            reached.put(s, allFrom(s));
        }
        Set<BitSet> sets = new HashSet<>();
        int closed = 0;
        int greatest = 0;
        int own = 0;
        for (int s : graph().keySet()) {
            BitSet set = new BitSet();
            reached.get(s).stream().filter(t -> reached.get(t).get(s)).forEach(set::set);
            int size = set.cardinality();
            if (sets.add(set)) {
                closed += reached.get(s).cardinality() == size ? 1 : 0;
                greatest = Math.max(greatest, size);
            }
            own = s == number(false) ? size : own;
        }
        return new int[] {sets.size(), own, closed, greatest}[what];
    }

    private static boolean permutes(int many, int... names) {
        int[] sorted = Arrays.copyOf(names, many);
        Arrays.sort(sorted);
        for (int k = 0; k < many; k++) {
            if (sorted[k] != k) {
                return false;
            }
        }
        return true;
    }

    boolean rename(int a, int b, int c, int d, int e) {
        int[] names = {a, b, c, d, e};
        if (!permutes(pegs, names)) {
            return refuse(1);
        }
        Map<Integer, Lane> old = new TreeMap<>(lanes);
        lanes.clear();
        old.forEach((code, lane) -> lanes.put(10 * names[code / 10] + names[code % 10], lane));
        stand = renamed(stand, names);
        goal = renamed(goal, names);
        changed();
        trouble = 0;
        return true;
    }

    private List<List<Integer>> renamed(List<List<Integer>> piles, int[] names) {
        List<List<Integer>> fresh = new ArrayList<>(piles);
        for (int p = 0; p < pegs; p++) {
            fresh.set(names[p], piles.get(p));
        }
        return fresh;
    }

    int about() {
        Map<Integer, Lane> old = new TreeMap<>(lanes);
        lanes.clear();
        old.forEach((code, lane) -> lanes.put(10 * (code % 10) + code / 10, lane));
        List<List<Integer>> was = stand;
        stand = goal;
        goal = was;
        changed();
        return lanes.size();
    }

    // ---- schemes

    private boolean isScheme(int scheme) {
        return scheme >= 0 && scheme < schemes.size();
    }

    int scheme() {
        if (schemes.size() == 8) {
            return none(5);
        }
        trouble = 0;
        schemes.add(new ArrayList<>());
        return schemes.size() - 1;
    }

    int single(int scheme, int from, int to) {
        if (!isScheme(scheme) || from < 0 || from > 4 || to < 0 || to > 4 || from == to) {
            return none(1);
        }
        return add(scheme, new Step(-1, 0, List.of(from, to)));
    }

    int call(int scheme, int of, int less, int a, int b, int c, int d, int e) {
        if (!isScheme(scheme) || !isScheme(of) || less < 1 || less > 4 || !permutes(5, a, b, c, d, e)) {
            return none(1);
        }
        return add(scheme, new Step(of, less, List.of(a, b, c, d, e)));
    }

    private int add(int scheme, Step step) {
        if (schemes.get(scheme).size() == 8) {
            return none(5);
        }
        trouble = 0;
        schemes.get(scheme).add(step);
        return schemes.get(scheme).size();
    }

    long count(int scheme, int height) {
        if (!isScheme(scheme) || height < 0 || height > 60) {
            return none(1);
        }
        trouble = 0;
        return exactCount(scheme, height, new HashMap<>()).min(MOST).longValue();
    }

    private BigInteger exactCount(int scheme, int height, Map<Integer, BigInteger> known) {
        if (height <= 0) {
            return BigInteger.ZERO;
        }
        int key = 100 * scheme + height;
        if (!known.containsKey(key)) {
            BigInteger sum = BigInteger.ZERO;
            for (Step step : schemes.get(scheme)) {
                sum = sum.add(step.of < 0 ? BigInteger.ONE : exactCount(step.of, height - step.less, known));
            }
            known.put(key, sum);
        }
        return known.get(key);
    }

    private List<List<Integer>> tryPiles;
    private int tryMoves;
    private int tryBegun;

    int tried(int scheme, int height, int a, int b, int c, int d, int e) {
        failedAt = -1;
        if (!isScheme(scheme) || height < 1 || height > discs || !permutes(pegs, a, b, c, d, e)) {
            return none(1);
        }
        trouble = 0;
        tryMoves = 0;
        tryBegun = 0;
        tryPiles = new ArrayList<>();
        for (int p = 0; p < pegs; p++) {
            tryPiles.add(new ArrayList<>());
        }
        for (int disc = discs - 1; disc >= 0; disc--) {
            tryPiles.get(a).add(disc);
        }
        try {
            play(scheme, height, List.of(0, 1, 2, 3, 4), new int[] {a, b, c, d, e});
        } catch (Stopped stopped) {
            failedAt = stopped.answer == -2 ? tryMoves : -1;
            return stopped.answer;
        }
        for (int disc = 0; disc < height; disc++) {
            if (!tryPiles.get(b).contains(disc)) {
                return -3;
            }
        }
        return tryMoves;
    }

    private void begin() {
        tryBegun++;
        if (tryBegun > 5000) {
            throw new Stopped(-4);
        }
    }

    private void play(int scheme, int height, List<Integer> roles, int[] names) {
        if (height <= 0) {
            return;
        }
        begin();
        for (Step step : schemes.get(scheme)) {
            List<Integer> told = new ArrayList<>();
            for (int role : step.roles) {
                told.add(roles.get(role));
            }
            if (step.of >= 0) {
                play(step.of, height - step.less, told, names);
                continue;
            }
            begin();
            if (told.get(0) >= pegs || told.get(1) >= pegs) {
                throw new Stopped(-2);
            }
            int from = names[told.get(0)];
            int to = names[told.get(1)];
            List<Integer> pile = tryPiles.get(from);
            if (pile.isEmpty() || pile.get(pile.size() - 1) != height - 1 || pack(pile).size() != 1
                    || reason(tryPiles, from, to) != 0) {
                throw new Stopped(-2);
            }
            carry(tryPiles, from, to, 1);
            tryMoves++;
        }
    }

    int failed() {
        return failedAt;
    }

    int trouble() {
        return trouble;
    }

    int size(int what) {
        int sum = 0;
        for (int disc = 0; disc < discs; disc++) {
            sum += kinds[disc] * power(4, disc);
        }
        int[] sizes = {pegs, discs, lanes.size(), schemes.size(), done.size(), undone.size(),
            thePlan.size(), sum};
        return what >= 0 && what < sizes.length ? sizes[what] : -1;
    }
}
