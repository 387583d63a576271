import java.util.Arrays;

/**
 * A yard where discs are moved one at a time between pegs joined by one-way lanes, never a greater
 * one onto a lesser. The stands are held as their NUMBERS; what lies where is read from them.
 */
public final class DiscYard {
    public static final int NONE = -1;

    private static final int LEAST_PEGS = 2;
    private static final int MAX_PEGS = 5;
    private static final int MAX_DISCS = 7;
    private static final int MAX_STANDS = 20000;
    private static final int MAX_COST = 100;
    private static final int MAX_UNDONE = 200;
    private static final int MAX_SCHEMES = 8;
    private static final int MAX_STEPS = 8;
    private static final int MAX_LESS = 4;
    private static final int MAX_HEIGHT = 60;
    private static final int MAX_BEGUN = 5000;
    private static final long MAX_TALLY = 1000000000000000000L;

    private static final int PLAIN = 0;
    private static final int HEAVY = 1;
    private static final int RINGED = 2;
    private static final int STICKY = 3;

    private static final int NO_ROW = -2;
    private static final int CANNOT = -2;
    private static final int ELSEWHERE = -3;
    private static final int TOO_LONG = -4;

    private static final int WRONG_NUMBER = 1;
    private static final int TOO_MANY_STANDS = 2;
    private static final int NOT_RIGHT = 3;
    private static final int NO_MOVE = 4;
    private static final int FULL = 5;

    private final Board board;
    private final Look look;
    private final Past past;
    private final Plan thePlan;
    private final Search search;
    private final Knots knots;
    private final Book book;
    private final Trial trial;
    private int standing;
    private int wanted;
    private int lastTrouble;

    public DiscYard() {
        board = new Board();
        look = new Look();
        past = new Past();
        thePlan = new Plan();
        search = new Search();
        knots = new Knots();
        book = new Book();
        trial = new Trial();
    }

    // ---- the yard

    public boolean yard(int pegs, int discs) {
        if (pegs < LEAST_PEGS || pegs > MAX_PEGS || discs < 1 || discs > MAX_DISCS) {
            return refuse(WRONG_NUMBER);
        }
        board.begin(pegs, discs);
        standing = 0;
        wanted = 0;
        forgetAll();
        return accept();
    }

    public boolean kind(int disc, int kind) {
        if (!board.isDisc(disc) || kind < PLAIN || kind > STICKY) {
            return refuse(WRONG_NUMBER);
        }
        int old = board.kinds[disc];
        board.kinds[disc] = kind;
        if (!isRight(standing) || !isRight(wanted)) {
            board.kinds[disc] = old;
            return refuse(NOT_RIGHT);
        }
        forgetAll();
        return accept();
    }

    public boolean lane(int a, int b, int cost, boolean strong) {
        if (!board.isPeg(a) || !board.isPeg(b) || a == b || cost < 0 || cost > MAX_COST) {
            return refuse(WRONG_NUMBER);
        }
        board.setLane(a, b, cost, strong);
        forgetAll();
        return accept();
    }

    public int lanes() {
        board.openAll();
        forgetAll();
        return board.countLanes();
    }

    public int cost(int a, int b) {
        if (!board.isPeg(a) || !board.isPeg(b)) {
            return NONE;
        }
        return board.costs[a * MAX_PEGS + b];
    }

    public boolean stand(int number, boolean goal) {
        if (number < 0 || number >= board.stands) {
            return refuse(WRONG_NUMBER);
        }
        if (!isRight(number)) {
            return refuse(NOT_RIGHT);
        }
        if (goal) {
            wanted = number;
        } else {
            standing = number;
            past.forget();
        }
        return accept();
    }

    public int number(boolean goal) {
        return goal ? wanted : standing;
    }

    public int peg(int disc) {
        if (!board.isDisc(disc)) {
            return NONE;
        }
        look.read(board, standing);
        return look.pegOf[disc];
    }

    public int disc(int peg, int k) {
        if (!board.isPeg(peg) || k < 0) {
            return NONE;
        }
        look.read(board, standing);
        int below = 0;
        for (int disc = board.discs - 1; disc >= 0; disc--) {
            if (look.pegOf[disc] == peg) {
                if (below == k) {
                    return disc;
                }
                below++;
            }
        }
        return NONE;
    }

    // ---- moves

    public int why(int a, int b) {
        if (!board.isPeg(a) || !board.isPeg(b)) {
            return NONE;
        }
        look.read(board, standing);
        return look.hindrance(board, a, b);
    }

    public int move(int a, int b) {
        int hindrance = why(a, b);
        if (hindrance == NONE) {
            return none(WRONG_NUMBER);
        }
        if (hindrance != 0) {
            return none(NO_MOVE);
        }
        past.keep(standing);
        standing = look.landing(a, b);
        lastTrouble = 0;
        return look.packSize(a);
    }

    public int undo() {
        if (past.done == 0) {
            return 0;
        }
        standing = past.stepBack(standing);
        return 1;
    }

    public int redo() {
        if (past.undone == 0) {
            return 0;
        }
        standing = past.stepOn(standing);
        return 1;
    }

    public int moves() {
        look.read(board, standing);
        look.spread(board);
        return look.found;
    }

    // ---- all rows of moves

    public int fewest() {
        if (!searched()) {
            return NONE;
        }
        int cost = search.costTo(wanted);
        return cost == NONE ? NO_ROW : cost;
    }

    public int plan() {
        if (!searched()) {
            return NONE;
        }
        if (search.costTo(wanted) == NONE) {
            return NO_ROW;
        }
        search.writePlan(board, look, wanted, thePlan);
        return thePlan.length;
    }

    public int planned(int k) {
        if (k < 0 || k >= thePlan.length) {
            return NONE;
        }
        return thePlan.codes[k];
    }

    public long ways() {
        if (!searched()) {
            return NONE;
        }
        return search.rowsTo(wanted);
    }

    public int reach() {
        return searched() ? search.settled : NONE;
    }

    public int far() {
        return searched() ? search.greatestCost() : NONE;
    }

    public int farthest() {
        return searched() ? search.leastOfFarthest() : NONE;
    }

    public int joined(int what) {
        if (board.stands > MAX_STANDS) {
            return none(TOO_MANY_STANDS);
        }
        if (what < 0 || what > 3) {
            return none(WRONG_NUMBER);
        }
        lastTrouble = 0;
        knots.find(board, look);
        switch (what) {
            case 0:
                return knots.sets;
            case 1:
                return knots.sizeOfSet(standing);
            case 2:
                return knots.countClosed();
            default:
                return knots.greatestSize();
        }
    }

    public boolean rename(int a, int b, int c, int d, int e) {
        int[] names = {a, b, c, d, e};
        if (!isRearrangement(names, board.pegs)) {
            return refuse(WRONG_NUMBER);
        }
        standing = renamed(standing, names);
        wanted = renamed(wanted, names);
        board.renameLanes(names);
        forgetAll();
        return accept();
    }

    public int about() {
        board.turnLanes();
        int old = standing;
        standing = wanted;
        wanted = old;
        forgetAll();
        return board.countLanes();
    }

    // ---- schemes

    public int scheme() {
        if (book.made >= MAX_SCHEMES) {
            return none(FULL);
        }
        lastTrouble = 0;
        return book.open();
    }

    public int single(int scheme, int from, int to) {
        if (!book.has(scheme) || !isRole(from) || !isRole(to) || from == to) {
            return none(WRONG_NUMBER);
        }
        int[] roles = {from, to};
        return addStep(scheme, NONE, 0, roles);
    }

    public int call(int scheme, int of, int less, int a, int b, int c, int d, int e) {
        int[] roles = {a, b, c, d, e};
        if (!book.has(scheme) || !book.has(of) || less < 1 || less > MAX_LESS
                || !isRearrangement(roles, MAX_PEGS)) {
            return none(WRONG_NUMBER);
        }
        return addStep(scheme, of, less, roles);
    }

    public long count(int scheme, int height) {
        if (!book.has(scheme) || height < 0 || height > MAX_HEIGHT) {
            return none(WRONG_NUMBER);
        }
        lastTrouble = 0;
        return book.tally(scheme, height);
    }

    public int tried(int scheme, int height, int a, int b, int c, int d, int e) {
        int[] names = {a, b, c, d, e};
        trial.failedAt = NONE;
        if (!book.has(scheme) || height < 1 || height > board.discs
                || !isRearrangement(names, board.pegs)) {
            return none(WRONG_NUMBER);
        }
        lastTrouble = 0;
        trial.prepare(board, names);
        return trial.run(board, look, book, scheme, height);
    }

    public int failed() {
        return trial.failedAt;
    }

    public int trouble() {
        return lastTrouble;
    }

    public int size(int what) {
        switch (what) {
            case 0:
                return board.pegs;
            case 1:
                return board.discs;
            case 2:
                return board.countLanes();
            case 3:
                return book.made;
            case 4:
                return past.done;
            case 5:
                return past.undone;
            case 6:
                return thePlan.length;
            case 7:
                return board.sumOfKinds();
            default:
                return NONE;
        }
    }

    // ---- helpers of the face

    private boolean accept() {
        lastTrouble = 0;
        return true;
    }

    private boolean refuse(int trouble) {
        lastTrouble = trouble;
        return false;
    }

    private int none(int trouble) {
        lastTrouble = trouble;
        return NONE;
    }

    /** In another yard the moves that were done, and all that was found out, no longer hold. */
    private void forgetAll() {
        past.forget();
        search.forget();
        knots.forget();
    }

    private boolean isRight(int number) {
        look.read(board, number);
        return look.right;
    }

    private boolean searched() {
        if (board.stands > MAX_STANDS) {
            return refuse(TOO_MANY_STANDS);
        }
        search.from(board, look, standing);
        return accept();
    }

    private int renamed(int number, int[] names) {
        look.read(board, number);
        int sum = 0;
        for (int disc = 0; disc < board.discs; disc++) {
            sum += names[look.pegOf[disc]] * board.weights[disc];
        }
        return sum;
    }

    private int addStep(int scheme, int of, int less, int[] roles) {
        if (book.isFull(scheme)) {
            return none(FULL);
        }
        lastTrouble = 0;
        return book.append(scheme, of, less, roles);
    }

    private static boolean isRole(int role) {
        return role >= 0 && role < MAX_PEGS;
    }

    private static boolean isRearrangement(int[] names, int length) {
        int seen = 0;
        for (int k = 0; k < length; k++) {
            if (names[k] < 0 || names[k] >= length) {
                return false;
            }
            seen |= 1 << names[k];
        }
        return seen == (1 << length) - 1;
    }

    /** The pegs, the discs' KINDS and the LANES: all that decides which moves there are. */
    private static final class Board {
        int pegs;
        int discs;
        int stands;
        final int[] weights = new int[MAX_DISCS];
        final int[] kinds = new int[MAX_DISCS];
        final int[] costs = new int[MAX_PEGS * MAX_PEGS];
        final boolean[] strong = new boolean[MAX_PEGS * MAX_PEGS];

        Board() {
            pegs = 3;
            discs = 1;
            stands = 3;
            weights[0] = 1;
        }

        void begin(int newPegs, int newDiscs) {
            pegs = newPegs;
            discs = newDiscs;
            stands = 1;
            for (int disc = 0; disc < MAX_DISCS && disc < newDiscs; disc++) {
                weights[disc] = stands;
                stands *= newPegs;
            }
            Arrays.fill(kinds, PLAIN);
            Arrays.fill(costs, 0);
        }

        boolean isPeg(int peg) {
            return peg >= 0 && peg < pegs;
        }

        boolean isDisc(int disc) {
            return disc >= 0 && disc < discs;
        }

        void setLane(int a, int b, int cost, boolean isStrong) {
            costs[a * MAX_PEGS + b] = cost;
            strong[a * MAX_PEGS + b] = isStrong;
        }

        void openAll() {
            for (int a = 0; a < pegs; a++) {
                for (int b = 0; b < pegs; b++) {
                    if (a != b) {
                        setLane(a, b, 1, true);
                    }
                }
            }
        }

        int countLanes() {
            int lanes = 0;
            for (int cost : costs) {
                if (cost != 0) {
                    lanes++;
                }
            }
            return lanes;
        }

        void turnLanes() {
            for (int a = 0; a < pegs; a++) {
                for (int b = a + 1; b < pegs; b++) {
                    int oldCost = costs[a * MAX_PEGS + b];
                    boolean oldStrong = strong[a * MAX_PEGS + b];
                    setLane(a, b, costs[b * MAX_PEGS + a], strong[b * MAX_PEGS + a]);
                    setLane(b, a, oldCost, oldStrong);
                }
            }
        }

        void renameLanes(int[] names) {
            int[] oldCosts = costs.clone();
            boolean[] oldStrong = strong.clone();
            for (int a = 0; a < pegs; a++) {
                for (int b = 0; b < pegs; b++) {
                    int old = a * MAX_PEGS + b;
                    setLane(names[a], names[b], oldCosts[old], oldStrong[old]);
                }
            }
        }

        int sumOfKinds() {
            int sum = 0;
            for (int disc = 0; disc < discs; disc++) {
                sum += kinds[disc] << (2 * disc);
            }
            return sum;
        }
    }

    /** One STAND read from its NUMBER: what lies where, and the MOVES that can be done from it. */
    private static final class Look {
        final int[] pegOf = new int[MAX_DISCS];
        final int[] tops = new int[MAX_PEGS];
        /** The greatest disc of each top disc's PACK; a PACK's discs are all of its KIND. */
        final int[] bases = new int[MAX_PEGS];
        /** The sum of the weights of each top disc's PACK: what a peg more adds to the NUMBER. */
        final int[] loads = new int[MAX_PEGS];
        final int[] codes = new int[MAX_PEGS * MAX_PEGS];
        final int[] targets = new int[MAX_PEGS * MAX_PEGS];
        final int[] prices = new int[MAX_PEGS * MAX_PEGS];
        int found;
        int standRead;
        boolean right;

        void read(Board board, int number) {
            standRead = number;
            right = true;
            Arrays.fill(tops, NONE);
            int left = number;
            for (int disc = board.discs - 1; disc >= 0; disc--) {
                int weight = board.weights[disc];
                int peg = 0;
                while (peg < board.pegs - 1 && left >= weight) {
                    left -= weight;
                    peg++;
                }
                pegOf[disc] = peg;
                lay(board, disc, peg);
            }
        }

        private void lay(Board board, int disc, int peg) {
            int kind = board.kinds[disc];
            int below = tops[peg];
            int kindBelow = below == NONE ? PLAIN : board.kinds[below];
            if (below == disc + 1 && kind == STICKY && kindBelow == STICKY) {
                loads[peg] += board.weights[disc];
            } else {
                bases[peg] = disc;
                loads[peg] = board.weights[disc];
            }
            if (kindBelow == RINGED && kind != RINGED) {
                right = false;
            }
            tops[peg] = disc;
        }

        /** WHY a MOVE from a to b can't be; 0 if it can. */
        int hindrance(Board board, int a, int b) {
            if (board.costs[a * MAX_PEGS + b] == 0) {
                return 1;
            }
            if (tops[a] == NONE) {
                return 2;
            }
            int kind = board.kinds[bases[a]];
            if ((kind == HEAVY || kind == RINGED) && !board.strong[a * MAX_PEGS + b]) {
                return 3;
            }
            int under = tops[b];
            if (under == NONE) {
                return 0;
            }
            if (under < bases[a]) {
                return 4;
            }
            return board.kinds[under] == RINGED && kind != RINGED ? 5 : 0;
        }

        int landing(int a, int b) {
            return standRead + (b - a) * loads[a];
        }

        int packSize(int a) {
            return bases[a] - tops[a] + 1;
        }

        /** Lists all MOVES of the STAND read, in their order. */
        void spread(Board board) {
            found = 0;
            for (int a = 0; a < board.pegs; a++) {
                if (tops[a] == NONE) {
                    continue;
                }
                for (int b = 0; b < board.pegs; b++) {
                    if (hindrance(board, a, b) == 0) {
                        codes[found] = 10 * a + b;
                        targets[found] = landing(a, b);
                        prices[found] = board.costs[a * MAX_PEGS + b];
                        found++;
                    }
                }
            }
        }
    }

    /** The stands ahead of the MOVES that can be undone, and those behind the undone ones. */
    private static final class Past {
        final int[] earlier = new int[MAX_UNDONE];
        final int[] later = new int[MAX_UNDONE];
        int done;
        int undone;

        void forget() {
            done = 0;
            undone = 0;
        }

        void keep(int number) {
            if (done == MAX_UNDONE) {
                System.arraycopy(earlier, 1, earlier, 0, MAX_UNDONE - 1);
                done--;
            }
            earlier[done] = number;
            done++;
            undone = 0;
        }

        int stepBack(int number) {
            if (done == 0 || undone == MAX_UNDONE) {
                return number;
            }
            later[undone] = number;
            undone++;
            done--;
            return earlier[done];
        }

        int stepOn(int number) {
            if (undone == 0 || done == MAX_UNDONE) {
                return number;
            }
            earlier[done] = number;
            done++;
            undone--;
            return later[undone];
        }
    }

    /** THE PLAN's moves; it outlives the yard that it was made for. */
    private static final class Plan {
        int[] codes = new int[16];
        int length;

        void add(int code) {
            if (length == codes.length) {
                codes = Arrays.copyOf(codes, 2 * length);
            }
            codes[length] = code;
            length++;
        }
    }

    /**
     * The least costs from one STAND to all others. Stands wait in a ring of slots, one for each
     * cost: as no LANE costs more than 100, all that wait at one time differ by less than the ring.
     */
    private static final class Search {
        private static final int RING = 128;

        private final int[] heads = new int[RING];
        private int[] costs = new int[0];
        private long[] rows = new long[0];
        private int[] order = new int[0];
        private int[] after = new int[0];
        private int[] before = new int[0];
        /** 1 for a stand from which a cheapest row goes on to the one that is wanted. */
        private int[] leads = new int[0];
        /** NONE if what was found out no longer holds. */
        private int start = NONE;
        int settled;

        void forget() {
            start = NONE;
        }

        void from(Board board, Look look, int number) {
            if (start == number) {
                return;
            }
            start = number;
            prepare(board.stands);
            offer(number, 0, 1);
            int now = 0;
            for (int k = 0; k < board.stands; k++) {
                int slot = slotFrom(now);
                if (slot == NONE) {
                    break;
                }
                int nearest = heads[slot];
                takeOut(nearest);
                now = costs[nearest];
                order[settled] = nearest;
                settled++;
                look.read(board, nearest);
                look.spread(board);
                for (int i = 0; i < look.found; i++) {
                    offer(look.targets[i], now + look.prices[i], rows[nearest]);
                }
            }
        }

        private void prepare(int stands) {
            if (costs.length < stands) {
                costs = new int[stands];
                rows = new long[stands];
                order = new int[stands];
                after = new int[stands];
                before = new int[stands];
                leads = new int[stands];
            }
            Arrays.fill(costs, NONE);
            Arrays.fill(heads, NONE);
            Arrays.fill(rows, 0);
            settled = 0;
        }

        private int slotFrom(int cost) {
            for (int more = 0; more < RING; more++) {
                int slot = (cost + more) & (RING - 1);
                if (heads[slot] != NONE) {
                    return slot;
                }
            }
            return NONE;
        }

        private void offer(int number, int cost, long newRows) {
            int known = costs[number];
            if (known == cost) {
                rows[number] += newRows;
            } else if (known == NONE || cost < known) {
                if (known != NONE) {
                    takeOut(number);
                }
                costs[number] = cost;
                rows[number] = newRows;
                putIn(number);
            }
        }

        private void putIn(int number) {
            int slot = costs[number] & (RING - 1);
            int head = heads[slot];
            before[number] = NONE;
            after[number] = head;
            if (head != NONE) {
                before[head] = number;
            }
            heads[slot] = number;
        }

        private void takeOut(int number) {
            int ahead = before[number];
            int behind = after[number];
            if (ahead == NONE) {
                heads[costs[number] & (RING - 1)] = behind;
            } else {
                after[ahead] = behind;
            }
            if (behind != NONE) {
                before[behind] = ahead;
            }
        }

        int costTo(int number) {
            return costs[number];
        }

        long rowsTo(int number) {
            return rows[number];
        }

        int greatestCost() {
            return settled == 0 ? 0 : costs[order[settled - 1]];
        }

        int leastOfFarthest() {
            int greatest = greatestCost();
            int least = start;
            for (int k = settled - 1; k >= 0 && costs[order[k]] == greatest; k--) {
                if (k == settled - 1 || order[k] < least) {
                    least = order[k];
                }
            }
            return least;
        }

        /** The goal must have been reached from the start. */
        void writePlan(Board board, Look look, int goal, Plan plan) {
            markLeading(board, look, goal);
            plan.length = 0;
            int now = start;
            for (int k = 0; k < board.stands && now != goal; k++) {
                int move = firstLeading(board, look, now);
                if (move == NONE) {
                    break;
                }
                plan.add(look.codes[move]);
                now = look.targets[move];
            }
        }

        private void markLeading(Board board, Look look, int goal) {
            Arrays.fill(leads, 0);
            leads[goal] = 1;
            for (int k = settled - 1; k >= 0; k--) {
                int number = order[k];
                if (costs[number] < costs[goal] && firstLeading(board, look, number) != NONE) {
                    leads[number] = 1;
                }
            }
        }

        /** Which of a stand's MOVES is the first that goes on along a cheapest row. */
        private int firstLeading(Board board, Look look, int number) {
            look.read(board, number);
            look.spread(board);
            for (int i = 0; i < look.found; i++) {
                int target = look.targets[i];
                if (leads[target] == 1 && costs[target] == costs[number] + look.prices[i]) {
                    return i;
                }
            }
            return NONE;
        }
    }

    /**
     * The greatest sets of RIGHT stands within which each leads to each, found by Tarjan's walk
     * with a path of its own, as recursion would go as deep as there are stands.
     */
    private static final class Knots {
        private int[] marks = new int[0];
        private int[] lows = new int[0];
        private int[] places = new int[0];
        private int[] path = new int[0];
        private int[] pile = new int[0];
        private int[] setOf = new int[0];
        private int[] sizes = new int[0];
        /** 1 for a set that a row leads out of. */
        private int[] leaves = new int[0];
        private int marked;
        private int depth;
        private int piled;
        private boolean found;
        int sets;

        void forget() {
            found = false;
        }

        void find(Board board, Look look) {
            if (found) {
                return;
            }
            found = true;
            prepare(board.stands);
            for (int number = 0; number < board.stands; number++) {
                if (marks[number] == 0) {
                    look.read(board, number);
                    if (look.right) {
                        walk(board, look, number);
                    }
                }
            }
            for (int number = 0; number < board.stands; number++) {
                if (setOf[number] != NONE) {
                    seekWayOut(board, look, number);
                }
            }
        }

        private void prepare(int stands) {
            if (marks.length < stands) {
                marks = new int[stands];
                lows = new int[stands];
                places = new int[stands];
                path = new int[stands];
                pile = new int[stands];
                setOf = new int[stands];
                sizes = new int[stands];
                leaves = new int[stands];
            }
            Arrays.fill(marks, 0);
            Arrays.fill(setOf, NONE);
            Arrays.fill(sizes, 0);
            Arrays.fill(leaves, 0);
            marked = 0;
            depth = 0;
            piled = 0;
            sets = 0;
        }

        private void walk(Board board, Look look, int root) {
            enter(root);
            for (int k = 0; k < 2 * board.stands && depth > 0; k++) {
                int number = path[depth - 1];
                int unseen = nextUnseen(board, look, number);
                if (unseen == NONE) {
                    leave(number);
                } else {
                    enter(unseen);
                }
            }
        }

        private void enter(int number) {
            marked++;
            marks[number] = marked;
            lows[number] = marked;
            places[number] = 0;
            path[depth] = number;
            depth++;
            pile[piled] = number;
            piled++;
        }

        /** A MOVE to an unseen stand is looked at again when that one is left, for its low mark. */
        private int nextUnseen(Board board, Look look, int number) {
            look.read(board, number);
            look.spread(board);
            for (int i = places[number]; i < look.found; i++) {
                int target = look.targets[i];
                if (marks[target] == 0) {
                    places[number] = i;
                    return target;
                }
                if (setOf[target] == NONE) {
                    lows[number] = Math.min(lows[number], lows[target]);
                }
            }
            return NONE;
        }

        private void leave(int number) {
            depth--;
            if (lows[number] != marks[number]) {
                return;
            }
            boolean open = true;
            while (open && piled > 0) {
                piled--;
                int member = pile[piled];
                setOf[member] = sets;
                sizes[sets]++;
                open = member != number;
            }
            sets++;
        }

        private void seekWayOut(Board board, Look look, int number) {
            int own = setOf[number];
            if (leaves[own] == 1) {
                return;
            }
            look.read(board, number);
            look.spread(board);
            for (int i = 0; i < look.found; i++) {
                if (setOf[look.targets[i]] != own) {
                    leaves[own] = 1;
                }
            }
        }

        int sizeOfSet(int number) {
            int set = setOf[number];
            return set == NONE ? 0 : sizes[set];
        }

        int countClosed() {
            int closed = 0;
            for (int set = 0; set < sets; set++) {
                if (leaves[set] == 0) {
                    closed++;
                }
            }
            return closed;
        }

        int greatestSize() {
            int greatest = 0;
            for (int set = 0; set < sets; set++) {
                greatest = Math.max(greatest, sizes[set]);
            }
            return greatest;
        }
    }

    /** All SCHEMES: their STEPS lie in rows, eight places for each SCHEME. */
    private static final class Book {
        private static final int PLACES = MAX_SCHEMES * MAX_STEPS;

        final int[] lengths = new int[MAX_SCHEMES];
        /** The SCHEME that a STEP calls; NONE for a SINGLE one. */
        final int[] called = new int[PLACES];
        final int[] less = new int[PLACES];
        /** Five for each STEP; a SINGLE one has two, from and to. */
        final int[] roles = new int[PLACES * MAX_PEGS];
        private final long[] tallies = new long[(MAX_HEIGHT + 1) * MAX_SCHEMES];
        int made;

        boolean has(int scheme) {
            return scheme >= 0 && scheme < made;
        }

        boolean isFull(int scheme) {
            return lengths[scheme] >= MAX_STEPS;
        }

        int open() {
            lengths[made] = 0;
            made++;
            return made - 1;
        }

        /** The SCHEME must not be full. */
        int append(int scheme, int of, int lower, int[] newRoles) {
            int place = scheme * MAX_STEPS + lengths[scheme];
            called[place] = of;
            less[place] = lower;
            for (int k = 0; k < newRoles.length && k < MAX_PEGS; k++) {
                roles[place * MAX_PEGS + k] = newRoles[k];
            }
            lengths[scheme]++;
            return lengths[scheme];
        }

        /** MOVES of a SCHEME: those of all SCHEMES at lesser heights are told first. */
        long tally(int scheme, int height) {
            for (int h = 1; h <= height; h++) {
                for (int s = 0; s < made; s++) {
                    tallies[h * MAX_SCHEMES + s] = sumOfSteps(s, h);
                }
            }
            return tallies[height * MAX_SCHEMES + scheme];
        }

        /** Eight numbers of at most the greatest count stay within a long. */
        private long sumOfSteps(int scheme, int height) {
            long sum = 0;
            for (int k = 0; k < lengths[scheme]; k++) {
                int place = scheme * MAX_STEPS + k;
                if (called[place] == NONE) {
                    sum++;
                } else if (less[place] < height) {
                    sum += tallies[(height - less[place]) * MAX_SCHEMES + called[place]];
                }
            }
            return Math.min(sum, MAX_TALLY);
        }
    }

    /** A SCHEME played on a STAND of its own. */
    private static final class Trial {
        private static final int FINE = 0;

        /** The PEG of each role, for each depth of CALLS; NONE for a role that is no PEG. */
        private final int[][] pegs = new int[MAX_DISCS][MAX_PEGS];
        private int begun;
        private int done;
        private int standing;
        int failedAt = NONE;

        void prepare(Board board, int[] names) {
            begun = 0;
            done = 0;
            standing = 0;
            for (int role = 0; role < MAX_PEGS; role++) {
                pegs[0][role] = role < board.pegs ? names[role] : NONE;
            }
            for (int disc = 0; disc < board.discs; disc++) {
                standing += pegs[0][0] * board.weights[disc];
            }
        }

        int run(Board board, Look look, Book book, int scheme, int height) {
            int end = perform(board, look, book, scheme, height, 0);
            if (end == CANNOT) {
                failedAt = done;
            }
            if (end != FINE) {
                return end;
            }
            look.read(board, standing);
            for (int disc = 0; disc < height; disc++) {
                if (look.pegOf[disc] != pegs[0][1]) {
                    return ELSEWHERE;
                }
            }
            return done;
        }

        /** Every CALL is lower than its caller, so the depth stays below the number of discs. */
        private int perform(Board board, Look look, Book book, int scheme, int height, int depth) {
            begun++;
            if (begun > MAX_BEGUN) {
                return TOO_LONG;
            }
            for (int k = 0; k < book.lengths[scheme]; k++) {
                int place = scheme * MAX_STEPS + k;
                int lower = height - book.less[place];
                int end = FINE;
                if (book.called[place] == NONE) {
                    int from = pegs[depth][book.roles[place * MAX_PEGS]];
                    int to = pegs[depth][book.roles[place * MAX_PEGS + 1]];
                    end = shift(board, look, height - 1, from, to);
                } else if (lower > 0 && depth + 1 < MAX_DISCS) {
                    castRoles(book, place, depth);
                    end = perform(board, look, book, book.called[place], lower, depth + 1);
                }
                if (end != FINE) {
                    return end;
                }
            }
            return FINE;
        }

        private void castRoles(Book book, int place, int depth) {
            for (int role = 0; role < MAX_PEGS; role++) {
                pegs[depth + 1][role] = pegs[depth][book.roles[place * MAX_PEGS + role]];
            }
        }

        private int shift(Board board, Look look, int disc, int from, int to) {
            begun++;
            if (begun > MAX_BEGUN) {
                return TOO_LONG;
            }
            if (from == NONE || to == NONE) {
                return CANNOT;
            }
            look.read(board, standing);
            if (look.tops[from] != disc || look.packSize(from) != 1
                    || look.hindrance(board, from, to) != 0) {
                return CANNOT;
            }
            standing = look.landing(from, to);
            done++;
            return FINE;
        }
    }
}
