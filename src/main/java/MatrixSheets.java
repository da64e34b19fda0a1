/**
 * The sheet of a dig. The document (DOC.md) says what each call answers; the
 * face below looks at the arguments, and three parts do the work: Dig keeps
 * what was told, Plan finds links, rows and bends, Order lessens crossings.
 *
 * A set of contexts or groups is an int with a bit for each of its members.
 * Every row of numbers is made once, with the object, and used again.
 */
public final class MatrixSheets {
    public static final int NONE = -1;

    private static final int CONTEXTS = 16;
    private static final int PHASES = 6;
    private static final int MOST_ROUNDS = 12;
    private static final int MOST_BENDS = 150;
    // One for each ordered pair: more than there can be, so that the loops
    // over pairs keep within the rows by their own bounds.
    private static final int MOST_LINKS = CONTEXTS * CONTEXTS;
    private static final int MOST_MARKS = CONTEXTS + MOST_BENDS;
    private static final int MOST_PIECES = MOST_LINKS + MOST_BENDS;

    private static final int GROUPS_MISFIT = -2;
    private static final int TOO_MANY_BENDS = -3;

    private static final int DRAW_GROUP = 1;
    private static final int DRAW_LINK = 2;
    private static final int GROUP_NUMBERS = 4;
    private static final int UNIT = 16;

    private final Dig dig;
    private final Plan plan;
    private final Order order;
    private boolean sheetThere;

    public MatrixSheets() {
        dig = new Dig();
        plan = new Plan();
        order = new Order();
        sheetThere = false;
    }

    public int above(int a, int b) throws IndexOutOfBoundsException {
        needContext(a);
        needContext(b);
        return changed(dig.tellAbove(a, b));
    }

    public int same(int a, int b) throws IndexOutOfBoundsException {
        needContext(a);
        needContext(b);
        return changed(dig.tellSame(a, b));
    }

    public int phase(int context, int p) throws IndexOutOfBoundsException, IllegalArgumentException {
        needContext(context);
        if (p != NONE && (p < 0 || p >= PHASES)) {
            throw new IllegalArgumentException("no such phase");
        }
        sheetThere = false;
        return dig.tellPhase(context, p);
    }

    public boolean hide(int context, boolean on) throws IndexOutOfBoundsException {
        needContext(context);
        sheetThere = false;
        return dig.tellHidden(context, on);
    }

    public int group(int context) throws IndexOutOfBoundsException {
        needContext(context);
        return dig.leader[context];
    }

    public int misfit(int k, int which) throws IndexOutOfBoundsException {
        need(k >= 0 && (which == 0 || which == 1));
        int pair = dig.findMisfit(k);
        if (pair == NONE) {
            return NONE;
        }
        return which == 0 ? pair / CONTEXTS : pair % CONTEXTS;
    }

    public int draw(int rounds) throws IllegalArgumentException {
        if (rounds < 0 || rounds > MOST_ROUNDS) {
            throw new IllegalArgumentException("rounds are 0 to 12");
        }
        sheetThere = false;
        if (dig.findMisfit(0) != NONE) {
            return GROUPS_MISFIT;
        }
        plan.make(dig);
        if (plan.bendCount > MOST_BENDS) {
            return TOO_MANY_BENDS;
        }
        int fewest = order.make(plan, rounds);
        sheetThere = true;
        return fewest;
    }

    // In the calls that ask the sheet, an index below the first one is refused
    // ahead of the missing sheet, as the document names that exception first;
    // where the indices end is the sheet's to say, so that waits for one.

    public int crossings(int k) throws IndexOutOfBoundsException, IllegalStateException {
        need(k >= 0);
        needSheet();
        need(k <= order.rounds);
        return order.behindRound[k];
    }

    public int at(int context, int what) throws IndexOutOfBoundsException, IllegalStateException {
        needContext(context);
        need(what == 0 || what == 1);
        needSheet();
        int shown = dig.leader[context];
        if (!has(plan.drawn, shown)) {
            return NONE;
        }
        return what == 0 ? plan.row[shown] : order.place[shown];
    }

    public int links() throws IllegalStateException {
        needSheet();
        return plan.linkCount;
    }

    public int link(int k, int what) throws IndexOutOfBoundsException, IllegalStateException {
        need(k >= 0 && what >= 0);
        needSheet();
        need(k < plan.linkCount && what < 3 + plan.bendsOf(k));
        switch (what) {
            case 0:
                return plan.upper[k];
            case 1:
                return plan.lower[k];
            case 2:
                return plan.bendsOf(k);
            default:
                return order.place[plan.pointOf(k, what - 2)];
        }
    }

    public int command(int i) throws IndexOutOfBoundsException, IllegalStateException {
        need(i >= -1);
        needSheet();
        int groupNumbers = GROUP_NUMBERS * Integer.bitCount(plan.drawn);
        int size = groupNumbers + 6 * plan.linkCount + 2 * plan.bendCount;
        need(i < size);
        if (i == -1) {
            return size;
        }
        return i < groupNumbers ? numberOfGroups(i) : numberOfLinks(i - groupNumbers);
    }

    public int count(int what) throws IndexOutOfBoundsException {
        switch (what) {
            case 0:
                return Integer.bitCount(dig.there);
            case 1:
                return dig.pairsTold;
            case 2:
                return Integer.bitCount(dig.leadersOf(dig.there));
            case 3:
                return sheetThere ? plan.rowCount : 0;
            case 4:
                return sheetThere ? plan.bendCount : 0;
            default:
                throw new IndexOutOfBoundsException("nothing is counted by this number");
        }
    }

    private int changed(int answer) {
        if (answer == 1) {
            sheetThere = false;
        }
        return answer;
    }

    private int numberOfGroups(int i) {
        int shown = order.groupAt(i / GROUP_NUMBERS);
        switch (i % GROUP_NUMBERS) {
            case 0:
                return DRAW_GROUP;
            case 1:
                return shown;
            case 2:
                return UNIT * order.place[shown];
            default:
                return UNIT * plan.row[shown];
        }
    }

    private int numberOfLinks(int i) {
        int left = i;
        int k = 0;
        while (k < plan.linkCount - 1 && left >= numbersOf(k)) {
            left -= numbersOf(k);
            k++;
        }
        if (left == 0) {
            return DRAW_LINK;
        }
        if (left == 1) {
            return plan.bendsOf(k) + 2;
        }
        int point = (left - 2) / 2;
        if (left % 2 == 0) {
            return UNIT * order.place[plan.pointOf(k, point)];
        }
        return UNIT * (plan.row[plan.upper[k]] + point);
    }

    private int numbersOf(int k) {
        return 2 + 2 * (plan.bendsOf(k) + 2);
    }

    private void needSheet() {
        if (!sheetThere) {
            throw new IllegalStateException("there is no sheet");
        }
    }

    private static void needContext(int context) {
        need(context >= 0 && context < CONTEXTS);
    }

    private static void need(boolean isOne) {
        if (!isOne) {
            throw new IndexOutOfBoundsException("there is no such one");
        }
    }

    private static boolean has(int set, int member) {
        return (set >> member & 1) != 0;
    }

    /** Lets each set of reach go on through the groups of via, one behind the other. */
    private static void goOn(int[] reach, int via) {
        for (int middle = 0; middle < CONTEXTS; middle++) {
            for (int from = 0; from < CONTEXTS; from++) {
                if (has(via, middle) && has(reach[from], middle)) {
                    reach[from] |= reach[middle];
                }
            }
        }
    }

    /** What was told, and what follows from it for the groups; a group stands at its least context. */
    private static final class Dig {
        final int[] leader = new int[CONTEXTS];
        final int[] groupPhase = new int[CONTEXTS];
        final int[] directlyBelow = new int[CONTEXTS];
        int there;
        int hidden;
        int pairsTold;
        private final int[] toldBelow = new int[CONTEXTS];
        private final int[] ownPhase = new int[CONTEXTS];
        private final int[] over = new int[CONTEXTS];

        Dig() {
            for (int c = 0; c < CONTEXTS; c++) {
                leader[c] = c;
                ownPhase[c] = NONE;
                groupPhase[c] = NONE;
            }
        }

        int tellAbove(int a, int b) {
            if (has(toldBelow[a], b)) {
                return 0;
            }
            if (leader[a] == leader[b] || has(over[leader[b]], leader[a])) {
                return NONE;
            }
            toldBelow[a] |= 1 << b;
            pairsTold++;
            there |= 1 << a | 1 << b;
            settle();
            return 1;
        }

        int tellSame(int a, int b) {
            int one = leader[a];
            int other = leader[b];
            if (one == other) {
                return 0;
            }
            if (has(over[one], other) || has(over[other], one)) {
                return NONE;
            }
            join(Math.min(one, other), Math.max(one, other));
            there |= 1 << a | 1 << b;
            settle();
            return 1;
        }

        int tellPhase(int context, int p) {
            int was = ownPhase[context];
            ownPhase[context] = p;
            there |= 1 << context;
            settle();
            return was;
        }

        boolean tellHidden(int context, boolean on) {
            if (has(hidden, context) == on) {
                return false;
            }
            hidden ^= 1 << context;
            there |= 1 << context;
            return true;
        }

        int leadersOf(int contexts) {
            int leaders = 0;
            for (int c = 0; c < CONTEXTS; c++) {
                if (has(contexts, c)) {
                    leaders |= 1 << leader[c];
                }
            }
            return leaders;
        }

        /** The k-th misfit as CONTEXTS * upper + lower, or NONE. */
        int findMisfit(int k) {
            int left = k;
            for (int upper = 0; upper < CONTEXTS; upper++) {
                for (int lower = 0; lower < CONTEXTS; lower++) {
                    if (has(over[upper], lower) && isLaterPhase(upper, lower)) {
                        if (left == 0) {
                            return CONTEXTS * upper + lower;
                        }
                        left--;
                    }
                }
            }
            return NONE;
        }

        /** Whether both groups have phases, the first one's greater. */
        boolean isLaterPhase(int first, int second) {
            return groupPhase[second] != NONE && groupPhase[first] > groupPhase[second];
        }

        private void join(int least, int gone) {
            for (int c = 0; c < CONTEXTS; c++) {
                if (leader[c] == gone) {
                    leader[c] = least;
                }
            }
        }

        private void settle() {
            for (int c = 0; c < CONTEXTS; c++) {
                directlyBelow[c] = 0;
                groupPhase[c] = NONE;
            }
            for (int c = 0; c < CONTEXTS; c++) {
                directlyBelow[leader[c]] |= leadersOf(toldBelow[c]);
                lowerGroupPhase(leader[c], ownPhase[c]);
            }
            System.arraycopy(directlyBelow, 0, over, 0, CONTEXTS);
            goOn(over, leadersOf(there));
        }

        private void lowerGroupPhase(int least, int p) {
            if (p != NONE && (groupPhase[least] == NONE || p < groupPhase[least])) {
                groupPhase[least] = p;
            }
        }
    }

    /** Which groups are drawn in which rows, and the links with their bends. */
    private static final class Plan {
        final int[] row = new int[CONTEXTS];
        final int[] upper = new int[MOST_LINKS];
        final int[] lower = new int[MOST_LINKS];
        int drawn;
        int rowCount;
        int linkCount;
        int bendCount;
        private final int[] linkedBelow = new int[CONTEXTS];
        private final int[] forerunners = new int[CONTEXTS];
        private final int[] firstBend = new int[MOST_LINKS];

        void make(Dig dig) {
            drawn = dig.leadersOf(dig.there & ~dig.hidden);
            findLinks(dig);
            findForerunners(dig);
            layRows();
            layBends();
        }

        int bendsOf(int k) {
            return row[lower[k]] - row[upper[k]] - 1;
        }

        /**
         * The mark of link k that stands so many rows below its upper group.
         * Marks are what stands in rows: groups by their number, and bends
         * behind CONTEXTS.
         */
        int pointOf(int k, int down) {
            if (down <= 0) {
                return upper[k];
            }
            return down > bendsOf(k) ? lower[k] : CONTEXTS + firstBend[k] + down - 1;
        }

        private void findLinks(Dig dig) {
            int hiddenGroups = dig.leadersOf(dig.there) & ~drawn;
            System.arraycopy(dig.directlyBelow, 0, linkedBelow, 0, CONTEXTS);
            goOn(linkedBelow, hiddenGroups);
            linkCount = 0;
            for (int a = 0; a < CONTEXTS; a++) {
                for (int b = 0; b < CONTEXTS; b++) {
                    if (has(drawn, a) && has(linkedBelow[a] & drawn, b)) {
                        upper[linkCount] = a;
                        lower[linkCount] = b;
                        linkCount++;
                    }
                }
            }
        }

        private void findForerunners(Dig dig) {
            for (int g = 0; g < CONTEXTS; g++) {
                forerunners[g] = 0;
                for (int ahead = 0; ahead < CONTEXTS; ahead++) {
                    if (has(drawn, ahead) && (has(linkedBelow[ahead], g) || dig.isLaterPhase(g, ahead))) {
                        forerunners[g] |= 1 << ahead;
                    }
                }
            }
        }

        // Without misfits a forerunner's phase is never the greater one, so
        // there is no ring of forerunners and each row gets at least one.
        private void layRows() {
            int laid = 0;
            rowCount = 0;
            while (laid != drawn && rowCount < CONTEXTS) {
                int next = 0;
                for (int g = 0; g < CONTEXTS; g++) {
                    if (has(drawn & ~laid, g) && (forerunners[g] & ~laid) == 0) {
                        row[g] = rowCount;
                        next |= 1 << g;
                    }
                }
                laid |= next;
                rowCount++;
            }
        }

        private void layBends() {
            bendCount = 0;
            for (int k = 0; k < linkCount; k++) {
                firstBend[k] = bendCount;
                bendCount += bendsOf(k);
            }
        }
    }

    /** The marks of each row from ahead to behind, and the rounds that lessen crossings. */
    private static final class Order {
        final int[] place = new int[MOST_MARKS];
        final int[] behindRound = new int[MOST_ROUNDS + 1];
        int rounds;
        private final int[] marks = new int[MOST_MARKS];
        private final int[] bestMarks = new int[MOST_MARKS];
        private final int[] rowStart = new int[CONTEXTS + 1];
        private final int[] pieceFrom = new int[MOST_PIECES];
        private final int[] pieceTo = new int[MOST_PIECES];
        private final int[] pieceStart = new int[CONTEXTS + 1];
        private final int[] placeSum = new int[MOST_MARKS];
        private final int[] placeShare = new int[MOST_MARKS];
        private int rowCount;
        private int markCount;
        private int pieceCount;

        /** Orders a plan of at most MOST_BENDS bends; answers the fewest crossings. */
        int make(Plan plan, int roundsAsked) {
            rounds = roundsAsked;
            rowCount = plan.rowCount;
            layMarks(plan);
            layPieces(plan);
            int fewest = countCrossings();
            behindRound[0] = fewest;
            keepBest();
            for (int k = 1; k <= rounds; k++) {
                runRound();
                behindRound[k] = countCrossings();
                if (behindRound[k] < fewest) {
                    fewest = behindRound[k];
                    keepBest();
                }
            }
            takeBest();
            return fewest;
        }

        /** The group that has so many groups ahead of it by rows and places. */
        int groupAt(int groupsAhead) {
            int left = groupsAhead;
            for (int i = 0; i < markCount; i++) {
                if (marks[i] < CONTEXTS) {
                    if (left == 0) {
                        return marks[i];
                    }
                    left--;
                }
            }
            return 0;
        }

        private void layMarks(Plan plan) {
            markCount = 0;
            for (int r = 0; r < rowCount; r++) {
                rowStart[r] = markCount;
                for (int g = 0; g < CONTEXTS; g++) {
                    if (has(plan.drawn, g) && plan.row[g] == r) {
                        layMark(g);
                    }
                }
                for (int k = 0; k < plan.linkCount; k++) {
                    int down = r - plan.row[plan.upper[k]];
                    if (down > 0 && down <= plan.bendsOf(k)) {
                        layMark(plan.pointOf(k, down));
                    }
                }
                numberPlaces(r, markCount);
            }
            rowStart[rowCount] = markCount;
        }

        private void layMark(int mark) {
            marks[markCount] = mark;
            markCount++;
        }

        private void layPieces(Plan plan) {
            pieceCount = 0;
            for (int r = 0; r < rowCount; r++) {
                pieceStart[r] = pieceCount;
                for (int k = 0; k < plan.linkCount; k++) {
                    int down = r - plan.row[plan.upper[k]];
                    if (down >= 0 && down <= plan.bendsOf(k)) {
                        pieceFrom[pieceCount] = plan.pointOf(k, down);
                        pieceTo[pieceCount] = plan.pointOf(k, down + 1);
                        pieceCount++;
                    }
                }
            }
            pieceStart[rowCount] = pieceCount;
        }

        private void runRound() {
            for (int r = 1; r < rowCount; r++) {
                arrange(r, r - 1, pieceTo, pieceFrom);
            }
            for (int r = rowCount - 2; r >= 0; r--) {
                arrange(r, r, pieceFrom, pieceTo);
            }
        }

        /** Puts row r in order by the pieces that begin in row gap: near are their ends in r, far the other ones. */
        private void arrange(int r, int gap, int[] near, int[] far) {
            weigh(r, gap, near, far);
            sort(rowStart[r], rowStart[r + 1]);
            numberPlaces(r, rowStart[r + 1]);
        }

        private void weigh(int r, int gap, int[] near, int[] far) {
            for (int i = rowStart[r]; i < rowStart[r + 1]; i++) {
                placeSum[marks[i]] = 0;
                placeShare[marks[i]] = 0;
            }
            for (int p = pieceStart[gap]; p < pieceStart[gap + 1]; p++) {
                placeSum[near[p]] += place[far[p]];
                placeShare[near[p]]++;
            }
            for (int i = rowStart[r]; i < rowStart[r + 1]; i++) {
                if (placeShare[marks[i]] == 0) {
                    placeSum[marks[i]] = place[marks[i]];
                    placeShare[marks[i]] = 1;
                }
            }
        }

        // By insertion, as equal keys have to stay as they were.
        private void sort(int start, int end) {
            for (int i = start + 1; i < end; i++) {
                int mark = marks[i];
                int to = i;
                while (to > start && hasLesserKey(mark, marks[to - 1])) {
                    marks[to] = marks[to - 1];
                    to--;
                }
                marks[to] = mark;
            }
        }

        // Averages are compared as fractions: no rounding, no division.
        private boolean hasLesserKey(int mark, int other) {
            return placeSum[mark] * placeShare[other] < placeSum[other] * placeShare[mark];
        }

        private void numberPlaces(int r, int end) {
            for (int i = rowStart[r]; i < end; i++) {
                place[marks[i]] = i - rowStart[r];
            }
        }

        private int countCrossings() {
            int crossed = 0;
            for (int r = 0; r < rowCount; r++) {
                for (int p = pieceStart[r]; p < pieceStart[r + 1]; p++) {
                    crossed += countCrossed(p, pieceStart[r + 1]);
                }
            }
            return crossed;
        }

        /** How many of the pieces behind p, up to end, cross it. */
        private int countCrossed(int p, int end) {
            int from = place[pieceFrom[p]];
            int to = place[pieceTo[p]];
            int crossed = 0;
            for (int q = p + 1; q < end; q++) {
                if ((place[pieceFrom[q]] - from) * (place[pieceTo[q]] - to) < 0) {
                    crossed++;
                }
            }
            return crossed;
        }

        private void keepBest() {
            System.arraycopy(marks, 0, bestMarks, 0, markCount);
        }

        private void takeBest() {
            System.arraycopy(bestMarks, 0, marks, 0, markCount);
            for (int r = 0; r < rowCount; r++) {
                numberPlaces(r, rowStart[r + 1]);
            }
        }
    }
}
