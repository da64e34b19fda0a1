import java.util.ArrayList;
import java.util.List;

/**
 * The document once more, word by word and without any thought of speed: each
 * term is a method that asks what was told anew. The class is compared with it.
 */
final class PlainModel {
    private static final int N = 16;

    /** A group or a bend in its row; a group has no link. */
    private static final class Mark {
        final int row;
        final int group;
        final int link;

        Mark(int row, int group, int link) {
            this.row = row;
            this.group = group;
            this.link = link;
        }
    }

    private final boolean[][] told = new boolean[N][N];
    private final boolean[][] equal = new boolean[N][N];
    private final int[] phases = new int[N];
    private final boolean[] hidden = new boolean[N];
    private final boolean[] there = new boolean[N];

    private boolean sheet = false;
    private List<int[]> sheetLinks;
    private List<List<Mark>> sheetRows;
    private List<List<Mark>> linkPoints;
    private List<Integer> crossingsBehind;

    PlainModel() {
        for (int c = 0; c < N; c++) {
            phases[c] = -1;
        }
    }

    // What is told

    int above(int a, int b) {
        index(a < 0 || a >= N || b < 0 || b >= N);
        if (told[a][b]) {
            return 0;
        }
        told[a][b] = true;
        if (someGroupOverItself()) {
            told[a][b] = false;
            return -1;
        }
        there[a] = true;
        there[b] = true;
        sheet = false;
        return 1;
    }

    int same(int a, int b) {
        index(a < 0 || a >= N || b < 0 || b >= N);
        if (group(a) == group(b)) {
            return 0;
        }
        equal[a][b] = true;
        equal[b][a] = true;
        if (someGroupOverItself()) {
            equal[a][b] = false;
            equal[b][a] = false;
            return -1;
        }
        there[a] = true;
        there[b] = true;
        sheet = false;
        return 1;
    }

    int phase(int context, int p) {
        index(context < 0 || context >= N);
        if (p < -1 || p > 5) {
            throw new IllegalArgumentException();
        }
        int was = phases[context];
        phases[context] = p;
        there[context] = true;
        sheet = false;
        return was;
    }

    boolean hide(int context, boolean on) {
        index(context < 0 || context >= N);
        sheet = false;
        if (hidden[context] == on) {
            return false;
        }
        hidden[context] = on;
        there[context] = true;
        return true;
    }

    // The groups

    int group(int context) {
        index(context < 0 || context >= N);
        boolean[] seen = new boolean[N];
        walkEqual(context, seen);
        for (int c = 0; c < N; c++) {
            if (seen[c]) {
                return c;
            }
        }
        throw new AssertionError();
    }

    private void walkEqual(int context, boolean[] seen) {
        seen[context] = true;
        for (int c = 0; c < N; c++) {
            if (equal[context][c] && !seen[c]) {
                walkEqual(c, seen);
            }
        }
    }

    private List<Integer> groupsThere() {
        List<Integer> groups = new ArrayList<>();
        for (int g = 0; g < N; g++) {
            if (group(g) == g && there[g]) {
                groups.add(g);
            }
        }
        return groups;
    }

    private boolean aboveAsTold(int upper, int lower) {
        for (int a = 0; a < N; a++) {
            for (int b = 0; b < N; b++) {
                if (told[a][b] && group(a) == upper && group(b) == lower) {
                    return true;
                }
            }
        }
        return false;
    }

    private boolean[][] aboveTable() {
        boolean[][] table = new boolean[N][N];
        for (int a = 0; a < N; a++) {
            for (int b = 0; b < N; b++) {
                if (told[a][b]) {
                    table[group(a)][group(b)] = true;
                }
            }
        }
        return table;
    }

    private static boolean reaches(boolean[][] table, int from, int to, boolean[] seen, boolean[] may) {
        for (int next = 0; next < N; next++) {
            if (table[from][next]) {
                if (next == to) {
                    return true;
                }
                if (may[next] && !seen[next]) {
                    seen[next] = true;
                    if (reaches(table, next, to, seen, may)) {
                        return true;
                    }
                }
            }
        }
        return false;
    }

    private static boolean[] all() {
        boolean[] all = new boolean[N];
        java.util.Arrays.fill(all, true);
        return all;
    }

    private boolean someGroupOverItself() {
        boolean[][] table = aboveTable();
        for (int g = 0; g < N; g++) {
            if (reaches(table, g, g, new boolean[N], all())) {
                return true;
            }
        }
        return false;
    }

    private int groupPhase(int g) {
        int least = -1;
        for (int c = 0; c < N; c++) {
            if (group(c) == g && phases[c] != -1 && (least == -1 || phases[c] < least)) {
                least = phases[c];
            }
        }
        return least;
    }

    private boolean groupHidden(int g) {
        for (int c = 0; c < N; c++) {
            if (group(c) == g && !hidden[c]) {
                return false;
            }
        }
        return true;
    }

    private List<int[]> misfits() {
        boolean[][] table = aboveTable();
        List<int[]> pairs = new ArrayList<>();
        for (int u = 0; u < N; u++) {
            for (int l = 0; l < N; l++) {
                if (groupPhase(u) != -1 && groupPhase(l) != -1 && groupPhase(u) > groupPhase(l)
                        && reaches(table, u, l, new boolean[N], all())) {
                    pairs.add(new int[] {u, l});
                }
            }
        }
        return pairs;
    }

    int misfit(int k, int which) {
        index(k < 0 || which < 0 || which > 1);
        List<int[]> pairs = misfits();
        return k < pairs.size() ? pairs.get(k)[which] : -1;
    }

    // The sheet

    int draw(int rounds) {
        if (rounds < 0 || rounds > 12) {
            throw new IllegalArgumentException();
        }
        sheet = false;
        if (!misfits().isEmpty()) {
            return -2;
        }
        List<Integer> drawn = new ArrayList<>();
        for (int g : groupsThere()) {
            if (!groupHidden(g)) {
                drawn.add(g);
            }
        }
        sheetLinks = findLinks(drawn);
        int[] rows = findRows(drawn);
        int bends = 0;
        for (int[] pair : sheetLinks) {
            bends += rows[pair[1]] - rows[pair[0]] - 1;
        }
        if (bends > 150) {
            return -3;
        }
        List<List<Mark>> now = firstRows(drawn, rows);
        crossingsBehind = new ArrayList<>();
        crossingsBehind.add(countCrossings(now));
        sheetRows = copy(now);
        int fewest = crossingsBehind.get(0);
        for (int k = 1; k <= rounds; k++) {
            oneRound(now);
            crossingsBehind.add(countCrossings(now));
            if (crossingsBehind.get(k) < fewest) {
                fewest = crossingsBehind.get(k);
                sheetRows = copy(now);
            }
        }
        sheet = true;
        return fewest;
    }

    private List<int[]> findLinks(List<Integer> drawn) {
        boolean[][] table = aboveTable();
        boolean[] mayGoOver = new boolean[N];
        for (int g = 0; g < N; g++) {
            mayGoOver[g] = group(g) == g && groupHidden(g);
        }
        List<int[]> links = new ArrayList<>();
        for (int a : drawn) {
            for (int b : drawn) {
                if (aboveAsTold(a, b) || reaches(table, a, b, new boolean[N], mayGoOver)) {
                    links.add(new int[] {a, b});
                }
            }
        }
        return links;
    }

    private int[] findRows(List<Integer> drawn) {
        int[] rows = new int[N];
        boolean moved = true;
        while (moved) {
            moved = false;
            for (int g : drawn) {
                int least = 0;
                for (int[] pair : sheetLinks) {
                    if (pair[1] == g) {
                        least = Math.max(least, rows[pair[0]] + 1);
                    }
                }
                for (int other : drawn) {
                    if (groupPhase(g) != -1 && groupPhase(other) != -1 && groupPhase(other) < groupPhase(g)) {
                        least = Math.max(least, rows[other] + 1);
                    }
                }
                if (least != rows[g]) {
                    rows[g] = least;
                    moved = true;
                }
            }
        }
        return rows;
    }

    private List<List<Mark>> firstRows(List<Integer> drawn, int[] rows) {
        List<List<Mark>> result = new ArrayList<>();
        Mark[] ofGroup = new Mark[N];
        for (int g : drawn) {
            ofGroup[g] = new Mark(rows[g], g, -1);
            while (result.size() <= rows[g]) {
                result.add(new ArrayList<>());
            }
        }
        for (int g : drawn) {
            result.get(rows[g]).add(ofGroup[g]);
        }
        linkPoints = new ArrayList<>();
        for (int k = 0; k < sheetLinks.size(); k++) {
            List<Mark> points = new ArrayList<>();
            points.add(ofGroup[sheetLinks.get(k)[0]]);
            for (int r = rows[sheetLinks.get(k)[0]] + 1; r < rows[sheetLinks.get(k)[1]]; r++) {
                Mark bend = new Mark(r, -1, k);
                result.get(r).add(bend);
                points.add(bend);
            }
            points.add(ofGroup[sheetLinks.get(k)[1]]);
            linkPoints.add(points);
        }
        return result;
    }

    private static int placeOf(List<List<Mark>> rows, Mark mark) {
        return rows.get(mark.row).indexOf(mark);
    }

    private List<Mark[]> pieces() {
        List<Mark[]> pieces = new ArrayList<>();
        for (List<Mark> points : linkPoints) {
            for (int i = 0; i + 1 < points.size(); i++) {
                pieces.add(new Mark[] {points.get(i), points.get(i + 1)});
            }
        }
        return pieces;
    }

    private int countCrossings(List<List<Mark>> rows) {
        int crossed = 0;
        for (Mark[] p : pieces()) {
            for (Mark[] q : pieces()) {
                if (p[0].row == q[0].row && placeOf(rows, p[0]) < placeOf(rows, q[0])
                        && placeOf(rows, p[1]) > placeOf(rows, q[1])) {
                    crossed++;
                }
            }
        }
        return crossed;
    }

    private void oneRound(List<List<Mark>> rows) {
        for (int r = 1; r < rows.size(); r++) {
            putInOrder(rows, r, r - 1);
        }
        for (int r = rows.size() - 2; r >= 0; r--) {
            putInOrder(rows, r, r + 1);
        }
    }

    private void putInOrder(List<List<Mark>> rows, int r, int by) {
        List<Mark> row = rows.get(r);
        java.util.Map<Mark, long[]> keys = new java.util.HashMap<>();
        for (Mark mark : row) {
            long sum = 0;
            long share = 0;
            for (Mark[] piece : pieces()) {
                Mark other = piece[0] == mark ? piece[1] : piece[1] == mark ? piece[0] : null;
                if (other != null && other.row == by) {
                    sum += placeOf(rows, other);
                    share++;
                }
            }
            keys.put(mark, share == 0 ? new long[] {placeOf(rows, mark), 1} : new long[] {sum, share});
        }
        row.sort((x, y) -> Long.compare(keys.get(x)[0] * keys.get(y)[1], keys.get(y)[0] * keys.get(x)[1]));
    }

    private static List<List<Mark>> copy(List<List<Mark>> rows) {
        List<List<Mark>> result = new ArrayList<>();
        for (List<Mark> row : rows) {
            result.add(new ArrayList<>(row));
        }
        return result;
    }

    // What is asked of the sheet

    int crossings(int k) {
        index(k < 0);
        needSheet();
        index(k >= crossingsBehind.size());
        return crossingsBehind.get(k);
    }

    int at(int context, int what) {
        index(context < 0 || context >= N || what < 0 || what > 1);
        needSheet();
        for (List<Mark> row : sheetRows) {
            for (Mark mark : row) {
                if (mark.group == group(context)) {
                    return what == 0 ? mark.row : row.indexOf(mark);
                }
            }
        }
        return -1;
    }

    int links() {
        needSheet();
        return sheetLinks.size();
    }

    int link(int k, int what) {
        index(k < 0 || what < 0);
        needSheet();
        index(k >= sheetLinks.size());
        List<Integer> numbers = new ArrayList<>();
        List<Mark> points = linkPoints.get(k);
        numbers.add(sheetLinks.get(k)[0]);
        numbers.add(sheetLinks.get(k)[1]);
        numbers.add(points.size() - 2);
        for (Mark bend : points.subList(1, points.size() - 1)) {
            numbers.add(placeOf(sheetRows, bend));
        }
        index(what >= numbers.size());
        return numbers.get(what);
    }

    int command(int i) {
        index(i < -1);
        needSheet();
        List<Integer> numbers = new ArrayList<>();
        for (List<Mark> row : sheetRows) {
            for (Mark mark : row) {
                if (mark.group >= 0) {
                    numbers.add(1);
                    numbers.add(mark.group);
                    addPoint(numbers, mark);
                }
            }
        }
        for (List<Mark> points : linkPoints) {
            numbers.add(2);
            numbers.add(points.size());
            for (Mark point : points) {
                addPoint(numbers, point);
            }
        }
        index(i >= numbers.size());
        return i == -1 ? numbers.size() : numbers.get(i);
    }

    private void addPoint(List<Integer> numbers, Mark mark) {
        numbers.add(16 * placeOf(sheetRows, mark));
        numbers.add(16 * mark.row);
    }

    int count(int what) {
        index(what < 0 || what > 4);
        int counted = 0;
        if (what == 0) {
            for (boolean one : there) {
                counted += one ? 1 : 0;
            }
        } else if (what == 1) {
            for (boolean[] row : told) {
                for (boolean one : row) {
                    counted += one ? 1 : 0;
                }
            }
        } else if (what == 2) {
            counted = groupsThere().size();
        } else if (sheet && what == 3) {
            counted = sheetRows.size();
        } else if (sheet) {
            for (List<Mark> points : linkPoints) {
                counted += points.size() - 2;
            }
        }
        return counted;
    }

    private static void index(boolean noSuch) {
        if (noSuch) {
            throw new IndexOutOfBoundsException();
        }
    }

    private void needSheet() {
        if (!sheet) {
            throw new IllegalStateException();
        }
    }
}
