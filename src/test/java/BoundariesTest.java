/**
 * The boundary cases that the document names, promise by promise: the least
 * and the greatest of all that is allowed, the first ones beyond, an object
 * of which nothing was told and one of which all was told. That refused calls
 * change nothing is looked at in RefusedCallsTest.
 */
public final class BoundariesTest {
    private static final int NONE = MatrixSheets.NONE;
    private static final int LEAST = Integer.MIN_VALUE;
    private static final int GREATEST = Integer.MAX_VALUE;
    private static final int LAST = 15;
    // The powers of two are those that a narrowed or masked number would take for 0.
    private static final int[] NO_CONTEXTS =
            {LEAST, LEAST + 1, -65536, -256, -32, -17, -16, -15, -2, -1, 16, 17, 31, 32, 256, 65536, GREATEST - 1, GREATEST};

    private final Checks checks = new Checks("boundaries");

    public static void main(String[] args) {
        BoundariesTest test = new BoundariesTest();
        test.newObject();
        test.above();
        test.same();
        test.phase();
        test.hide();
        test.group();
        test.misfit();
        test.draw();
        test.drawRounds();
        test.crossings();
        test.at();
        test.linksAndLink();
        test.command();
        test.count();
        test.lastCall();
        test.checks.end();
    }

    // Promise 1

    private void newObject() {
        checks.due("1: NONE", -1, () -> MatrixSheets.NONE);
        nothingIsToldOfAnyContext();
        noPairIsTold();
        emptySheet();
    }

    private void nothingIsToldOfAnyContext() {
        MatrixSheets x = new MatrixSheets();
        for (int c = 0; c < 16; c++) {
            int asked = c;
            checks.due("1: a group of its own, " + c, c, () -> x.group(asked));
            checks.due("1: not hidden, " + c, false, () -> new MatrixSheets().hide(asked, false));
            checks.due("1: no phase, " + c, NONE, () -> new MatrixSheets().phase(asked, NONE));
            checks.due("1: no sheet, row of " + c, Checks.STATE, () -> x.at(asked, 0));
            checks.due("1: no sheet, place of " + c, Checks.STATE, () -> x.at(asked, 1));
        }
        checkCounts("1: nothing is there", x, 0, 0, 0, 0, 0);
        checkNoMisfit("1: nothing misfits", x, 0);
        checkNoSheet("1: no sheet", x);
    }

    private void noPairIsTold() {
        for (int a = 0; a < 16; a++) {
            for (int b = 0; b < 16; b++) {
                int one = a;
                int other = b;
                String pair = " " + a + ", " + b;
                checks.due("1, 2: above" + pair, a == b ? NONE : 1, () -> new MatrixSheets().above(one, other));
                checks.due("1, 3: same" + pair, a == b ? 0 : 1, () -> new MatrixSheets().same(one, other));
            }
        }
    }

    private void emptySheet() {
        for (int rounds = 0; rounds <= 12; rounds++) {
            int asked = rounds;
            MatrixSheets x = new MatrixSheets();
            checks.due("8: an empty sheet", 0, () -> x.draw(asked));
            checkCounts("14: an empty sheet", x, 0, 0, 0, 0, 0);
            checkCrossings("9: an empty sheet", x, new int[rounds + 1]);
            checkLinks("11, 12: an empty sheet", x);
            checkCommands("13: an empty sheet", x);
            for (int c = 0; c < 16; c++) {
                int context = c;
                checks.due("10: an empty sheet, row", NONE, () -> x.at(context, 0));
                checks.due("10: an empty sheet, place", NONE, () -> x.at(context, 1));
            }
        }
    }

    // Promise 2

    private void above() {
        aboveNamesBoth();
        aboveOfAllPairs();
        aboveOfRings();
        aboveOfWhatFollows();
        overEachContext();
        aboveAndTheSheet();
        for (int wrong : NO_CONTEXTS) {
            MatrixSheets x = Digs.above(0, 1);
            checks.due("2: no such upper one", Checks.INDEX, () -> x.above(wrong, LAST));
            checks.due("2: no such lower one", Checks.INDEX, () -> x.above(0, wrong));
            checks.due("2: neither", Checks.INDEX, () -> x.above(wrong, wrong));
            checkCounts("2: nothing was told", x, 2, 1, 2, 0, 0);
        }
    }

    private void aboveNamesBoth() {
        MatrixSheets down = Digs.above(0, LAST);
        checkCounts("2: 1 names both", down, 2, 1, 2, 0, 0);
        down.draw(0);
        checkLinks("2: the least above the greatest", down, 0, LAST);
        MatrixSheets up = Digs.above(LAST, 0);
        checkCounts("2: 1 names both", up, 2, 1, 2, 0, 0);
        up.draw(0);
        checkLinks("2: the greatest above the least", up, LAST, 0);
        MatrixSheets self = Digs.above(0, 0, LAST, LAST);
        checkCounts("2: NONE names nothing", self, 0, 0, 0, 0, 0);
    }

    private void aboveOfAllPairs() {
        MatrixSheets x = new MatrixSheets();
        for (int told = 0; told < 3; told++) {
            for (int a = 0; a < 16; a++) {
                for (int b = a + 1; b < 16; b++) {
                    int upper = told == 2 ? b : a;
                    int lower = told == 2 ? a : b;
                    int want = told == 0 ? 1 : told == 1 ? 0 : NONE;
                    checks.due("2: all pairs, time " + told, want, () -> x.above(upper, lower));
                }
            }
            checkCounts("2: all pairs, time " + told, x, 16, 120, 16, 0, 0);
        }
        checks.due("8: all pairs have 560 bends", -3, () -> x.draw(0));
    }

    private void aboveOfRings() {
        MatrixSheets x = Digs.chain();
        for (int a = 0; a < 16; a++) {
            for (int b = 0; b <= a; b++) {
                int upper = a;
                int lower = b;
                checks.due("2: a ring of " + (a - b + 1), NONE, () -> x.above(upper, lower));
            }
        }
        checkCounts("2: nothing changes at NONE", x, 16, 15, 16, 0, 0);
        checks.due("2: NONE was not told", NONE, () -> x.above(LAST, 0));
        MatrixSheets equal = new MatrixSheets();
        equal.same(3, LAST);
        equal.same(LAST, 7);
        checks.due("2: equal ones", NONE, () -> equal.above(3, LAST));
        checks.due("2: equal ones over others", NONE, () -> equal.above(7, 3));
        equal.above(0, 3);
        checks.due("2: a ring over equal ones", NONE, () -> equal.above(7, 0));
    }

    private void aboveOfWhatFollows() {
        MatrixSheets x = Digs.chain();
        checks.due("2: over, but not told", 1, () -> x.above(0, LAST));
        checks.due("2: told now", 0, () -> x.above(0, LAST));
        MatrixSheets joined = Digs.above(4, 5);
        joined.same(4, 2);
        joined.same(5, 6);
        checks.due("2: told before they were joined", 0, () -> joined.above(4, 5));
        checks.due("2: told of equal ones, not of these", 1, () -> joined.above(2, 6));
        checks.due("2: each pair counts", 2, () -> joined.count(1));
        joined.draw(0);
        checkLinks("2: one link of both", joined, 2, 5);
    }

    /** Each context by itself is the one between two others: the least and the greatest one too. */
    private void overEachContext() {
        for (int between = 0; between < 16; between++) {
            int upper = (between + 1) % 16;
            int lower = (between + 15) % 16;
            MatrixSheets x = Digs.above(upper, between, between, lower);
            String title = "over " + between;
            checks.due("2: " + title, NONE, () -> x.above(lower, upper));
            checks.due("3: " + title, NONE, () -> x.same(lower, upper));
            x.draw(0);
            checks.due("11: " + title + ", drawn", 2, () -> x.links());
            x.hide(between, true);
            x.draw(0);
            checkLinks("12: " + title + ", hidden", x, upper, lower);
            x.phase(upper, 1);
            x.phase(lower, 0);
            checkMisfits("7: " + title, x, upper, lower);
        }
    }

    private void aboveAndTheSheet() {
        MatrixSheets x = Digs.above(0, 1, 1, 2);
        x.same(2, 3);
        x.draw(4);
        checks.due("2: told", 0, () -> x.above(0, 1));
        checkLinks("2: the sheet stays at 0", x, 0, 1, 1, 2);
        checks.due("2: a ring", NONE, () -> x.above(3, 0));
        checks.due("2: itself", NONE, () -> x.above(9, 9));
        checkLinks("2: the sheet stays at NONE", x, 0, 1, 1, 2);
        checks.due("2: the rounds stay too", 0, () -> x.crossings(4));
        checks.due("2: no new link, but new", 1, () -> x.above(1, 3));
        checkNoSheet("2: the sheet is gone at 1", x);
    }

    // Promise 3

    private void same() {
        sameNamesBoth();
        sameOfAll();
        sameOfOnesOverOneAnother();
        sameOfRings();
        sameAndTheSheet();
        for (int wrong : NO_CONTEXTS) {
            MatrixSheets x = Digs.above(0, 1);
            checks.due("3: no such first one", Checks.INDEX, () -> x.same(wrong, LAST));
            checks.due("3: no such second one", Checks.INDEX, () -> x.same(0, wrong));
            checks.due("3: neither, though the same", Checks.INDEX, () -> x.same(wrong, wrong));
            checkCounts("3: nothing was told", x, 2, 1, 2, 0, 0);
        }
    }

    private void sameNamesBoth() {
        MatrixSheets x = new MatrixSheets();
        x.same(LAST, 0);
        checkCounts("3: 1 names both", x, 2, 0, 1, 0, 0);
        checks.due("3: 0 in a group", 0, () -> x.same(0, LAST));
        checkCounts("3: 0 names nothing", x, 2, 0, 1, 0, 0);
        checks.due("3: 0 with itself", 0, () -> x.same(9, 9));
        checkCounts("3: 0 with itself names nothing", x, 2, 0, 1, 0, 0);
        x.draw(0);
        checks.due("3: what is not there is not drawn", NONE, () -> x.at(9, 0));
    }

    private void sameOfAll() {
        MatrixSheets x = Digs.ALL_IN_ONE_GROUP.make();
        checkCounts("3: all in one group", x, 16, 0, 1, 1, 0);
        for (int a = 0; a < 16; a++) {
            int one = a;
            checks.due("3, 6: all in one group", 0, () -> x.group(one));
            for (int b = 0; b < 16; b++) {
                int other = b;
                checks.due("3: in one group", 0, () -> x.same(one, other));
            }
        }
        checkCommands("3, 13: drawn once, as the least", x, 1, 0, 0, 0);
        MatrixSheets halves = new MatrixSheets();
        for (int c = 2; c < 16; c++) {
            int one = c;
            checks.due("3: joined by twos", 1, () -> halves.same(one, one - 2));
        }
        checks.due("3: two groups", 2, () -> halves.count(2));
        checks.due("3: all of both are joined", 1, () -> halves.same(LAST, 14));
        checks.due("3: one group", 1, () -> halves.count(2));
        checks.due("6: the least of both", 0, () -> halves.group(LAST));
    }

    private void sameOfOnesOverOneAnother() {
        MatrixSheets x = Digs.chain();
        for (int a = 0; a < 16; a++) {
            for (int b = 0; b < 16; b++) {
                int one = a;
                int other = b;
                checks.due("3: of a chain", a == b ? 0 : NONE, () -> x.same(one, other));
            }
        }
        checkCounts("3: nothing changes at NONE", x, 16, 15, 16, 0, 0);
        for (int c = 0; c < 16; c++) {
            int asked = c;
            checks.due("3: not joined at NONE", c, () -> x.group(asked));
        }
    }

    private void sameOfRings() {
        MatrixSheets x = Digs.above(0, 1, 2, 3, 4, 5);
        checks.due("3: both below", 1, () -> x.same(1, 3));
        checks.due("3: now one is over the other by equal ones", 1, () -> x.same(4, 3));
        checks.due("3: 0 is over 5 by 1, 3 and 4", NONE, () -> x.same(0, 5));
        checks.due("3: 2 is over 5 by 3 and 4", NONE, () -> x.same(5, 2));
        checks.due("3: neither is over the other", 1, () -> x.same(0, 2));
        checks.due("3: three groups", 3, () -> x.count(2));
    }

    private void sameAndTheSheet() {
        MatrixSheets x = Digs.above(0, 1, 2, 3);
        x.draw(4);
        checks.due("3: itself", 0, () -> x.same(0, 0));
        checks.due("3: one not there", 0, () -> x.same(LAST, LAST));
        checkLinks("3: the sheet stays at 0", x, 0, 1, 2, 3);
        checks.due("3: over it", NONE, () -> x.same(1, 0));
        checkLinks("3: the sheet stays at NONE", x, 0, 1, 2, 3);
        checks.due("3: the rounds stay too", 0, () -> x.crossings(4));
        checks.due("3: equal", 1, () -> x.same(2, 0));
        checkNoSheet("3: the sheet is gone at 1", x);
    }

    // Promise 4

    private void phase() {
        phaseIsWhatItWas();
        phaseOfAGroup();
        phaseAndTheSheet();
        phaseRefused();
    }

    private void phaseIsWhatItWas() {
        MatrixSheets x = new MatrixSheets();
        for (int p = NONE; p <= 5; p++) {
            for (int c = 0; c < 16; c++) {
                int context = c;
                int given = p;
                checks.due("4: none, or the one before", Math.max(NONE, p - 1), () -> x.phase(context, given));
            }
        }
        checks.due("4: the greatest phase stays", 5, () -> x.phase(0, 5));
        checks.due("4: the greatest phase of the last one", 5, () -> x.phase(LAST, NONE));
        checks.due("4: taken away", NONE, () -> x.phase(LAST, 0));
        checks.due("4: the least phase", 0, () -> x.phase(LAST, 0));
        checkCounts("4: all are there", x, 16, 0, 16, 0, 0);
        MatrixSheets named = new MatrixSheets();
        named.phase(LAST, NONE);
        checkCounts("4: NONE to none names too", named, 1, 0, 1, 0, 0);
        named.draw(0);
        checkCommands("4: and it is drawn", named, 1, LAST, 0, 0);
    }

    /** 14 is above the group of 0 and 15; the phase of 14 tells by misfits what the group's phase is. */
    private void phaseOfAGroup() {
        MatrixSheets x = Digs.above(14, LAST);
        x.phase(14, 3);
        x.same(0, LAST);
        checkNoMisfit("4: NONE if none has one", x, 0);
        x.phase(LAST, 2);
        checkMisfits("4: the only one's", x, 14, 0);
        x.phase(0, 5);
        checkMisfits("4: the least, not the last told", x, 14, 0);
        checks.due("4: a context's own, not its group's", 5, () -> x.phase(0, 4));
        x.phase(LAST, 3);
        checkNoMisfit("4: equal phases fit", x, 0);
        x.phase(LAST, NONE);
        checkNoMisfit("4: what is left of them", x, 0);
        x.phase(0, 0);
        checkMisfits("4: 0 is a phase, and the least", x, 14, 0);
        x.phase(0, NONE);
        checkNoMisfit("4: all taken away", x, 0);
    }

    private void phaseAndTheSheet() {
        for (int p = NONE; p <= 5; p++) {
            MatrixSheets x = Digs.above(0, 1);
            x.phase(1, p);
            x.draw(0);
            x.phase(1, p);
            checkNoSheet("4: the sheet is gone, though the phase was " + p, x);
        }
        MatrixSheets other = Digs.above(0, 1);
        other.draw(0);
        other.phase(9, NONE);
        checkNoSheet("4: the sheet is gone by one that was not there", other);
    }

    private void phaseRefused() {
        MatrixSheets x = Digs.SHEET_WITHOUT_LINKS.make();
        for (int wrong : new int[] {LEAST, LEAST + 5, -65536, -256, -3, -2, 6, 7, 8, 256, 65536, GREATEST - 1, GREATEST}) {
            checks.due("4: no such phase, of the least", Checks.ARGUMENT, () -> x.phase(0, wrong));
            checks.due("4: no such phase, of the greatest", Checks.ARGUMENT, () -> x.phase(LAST, wrong));
            checks.due("4: no such context comes first", Checks.INDEX, () -> x.phase(-1, wrong));
            checks.due("4: no such context comes first", Checks.INDEX, () -> x.phase(16, wrong));
        }
        for (int wrong : NO_CONTEXTS) {
            for (int p = NONE; p <= 5; p++) {
                int given = p;
                checks.due("4: no such context", Checks.INDEX, () -> x.phase(wrong, given));
            }
        }
        checks.due("4: the sheet stays", 0, () -> x.links());
        checks.due("4: the phase stays", 1, () -> x.phase(0, NONE));
        checks.due("4: the last one's phase stays", 0, () -> x.phase(LAST, NONE));
    }

    // Promise 5

    private void hide() {
        MatrixSheets x = new MatrixSheets();
        for (int c = 0; c < 16; c++) {
            int asked = c;
            checks.due("5: not hidden", false, () -> x.hide(asked, false));
            checks.due("5: no names nothing", c, () -> x.count(0));
            checks.due("5: hidden", true, () -> x.hide(asked, true));
            checks.due("5: yes names", c + 1, () -> x.count(0));
            checks.due("5: hidden already", false, () -> x.hide(asked, true));
        }
        checkCounts("5: all hidden are there", x, 16, 0, 16, 0, 0);
        for (int c = 0; c < 16; c++) {
            int asked = c;
            checks.due("5: shown", true, () -> x.hide(asked, false));
            checks.due("5: shown already", false, () -> x.hide(asked, false));
        }
        checkCounts("5: all shown are there", x, 16, 0, 16, 0, 0);
        hideOneByOneOfAGroup();
        hideAndTheSheet();
        for (int wrong : NO_CONTEXTS) {
            checks.due("5: no such context to hide", Checks.INDEX, () -> x.hide(wrong, true));
            checks.due("5: no such context to show", Checks.INDEX, () -> x.hide(wrong, false));
        }
    }

    private void hideOneByOneOfAGroup() {
        MatrixSheets x = Digs.ALL_IN_ONE_GROUP.make();
        for (int c = 0; c < 16; c++) {
            x.hide(c, true);
            x.draw(0);
            int row = c < LAST ? 0 : NONE;
            checks.due("5: a group is hidden if all its contexts are, least", row, () -> x.at(0, 0));
            checks.due("5: a group is hidden if all its contexts are, last", row, () -> x.at(LAST, 1));
            checks.due("5: a hidden group is in no row", c < LAST ? 1 : 0, () -> x.count(3));
        }
        x.hide(7, false);
        x.draw(0);
        checkCommands("5: drawn as its least, though that one is hidden", x, 1, 0, 0, 0);
    }

    private void hideAndTheSheet() {
        for (boolean on : new boolean[] {true, false}) {
            MatrixSheets x = Digs.above(0, 1);
            x.hide(0, on);
            x.draw(0);
            checks.due("5: that was so", false, () -> x.hide(0, on));
            checkNoSheet("5: the sheet is gone at no", x);
            x.draw(0);
            checks.due("5: that was not so", true, () -> x.hide(0, !on));
            checkNoSheet("5: the sheet is gone at yes", x);
        }
    }

    // Promise 6

    private void group() {
        MatrixSheets x = new MatrixSheets();
        x.same(LAST, 14);
        checks.due("6: the greatest two", 14, () -> x.group(LAST));
        checks.due("6: the greatest two", 14, () -> x.group(14));
        x.same(1, 0);
        checks.due("6: the least two", 0, () -> x.group(0));
        checks.due("6: the least two", 0, () -> x.group(1));
        x.same(LAST, 1);
        for (int c : new int[] {0, 1, 14, LAST}) {
            checks.due("6: both joined", 0, () -> x.group(c));
        }
        for (int c = 2; c < 14; c++) {
            int asked = c;
            checks.due("6: of which nothing was told", c, () -> x.group(asked));
        }
        x.hide(0, true);
        checks.due("6: the least one, hidden or not", 0, () -> x.group(LAST));
        for (int wrong : NO_CONTEXTS) {
            checks.due("6: no such context", Checks.INDEX, () -> x.group(wrong));
        }
    }

    // Promise 7

    private void misfit() {
        misfitOfTwoPhases();
        mostMisfits();
        misfitsOfOthers();
        MatrixSheets none = new MatrixSheets();
        MatrixSheets one = Digs.above(0, LAST);
        one.phase(0, 1);
        one.phase(LAST, 0);
        for (MatrixSheets x : new MatrixSheets[] {none, one}) {
            for (int wrong : new int[] {LEAST, LEAST + 1, -65536, -256, -2, -1}) {
                checks.due("7: k is below 0", Checks.INDEX, () -> x.misfit(wrong, 0));
                checks.due("7: k is below 0", Checks.INDEX, () -> x.misfit(wrong, 1));
            }
            for (int wrong : new int[] {LEAST, LEAST + 1, -256, -2, -1, 2, 3, 256, 257, GREATEST - 1, GREATEST}) {
                checks.due("7: which is neither", Checks.INDEX, () -> x.misfit(0, wrong));
                checks.due("7: which is neither, behind the last pair", Checks.INDEX, () -> x.misfit(GREATEST, wrong));
                checks.due("7: both wrong", Checks.INDEX, () -> x.misfit(-1, wrong));
            }
        }
        checkMisfits("7: one pair", one, 0, LAST);
    }

    private void misfitOfTwoPhases() {
        for (int upper = NONE; upper <= 5; upper++) {
            for (int lower = NONE; lower <= 5; lower++) {
                MatrixSheets x = Digs.above(LAST, 0);
                x.phase(LAST, upper);
                x.phase(0, lower);
                String title = "7: phase " + upper + " above " + lower;
                if (lower != NONE && upper > lower) {
                    checkMisfits(title, x, LAST, 0);
                    checks.due(title + " is not drawn", -2, () -> x.draw(0));
                } else {
                    checkNoMisfit(title, x, 0);
                    checks.due(title + " is drawn", 0, () -> x.draw(0));
                }
            }
        }
    }

    /** A chain from 15 up to 0 is told from below, so that the order by number is not the order of telling. */
    private void mostMisfits() {
        MatrixSheets x = new MatrixSheets();
        for (int c = 0; c < 15; c++) {
            x.above(c + 1, c);
        }
        for (int c = 0; c < 16; c++) {
            x.phase(c, c * 6 / 16);
        }
        int k = 0;
        for (int upper = 0; upper < 16; upper++) {
            for (int lower = 0; lower < upper; lower++) {
                if (upper * 6 / 16 > lower * 6 / 16) {
                    int asked = k;
                    checks.due("7: upper one of " + k, upper, () -> x.misfit(asked, 0));
                    checks.due("7: lower one of " + k, lower, () -> x.misfit(asked, 1));
                    k++;
                }
            }
        }
        checks.equal("7: most misfits", "106", String.valueOf(k));
        checkNoMisfit("7: not so many", x, k);
        checks.due("8: many misfits", -2, () -> x.draw(12));
    }

    private void misfitsOfOthers() {
        MatrixSheets apart = new MatrixSheets();
        apart.phase(0, 5);
        apart.phase(LAST, 0);
        checkNoMisfit("7: neither is over the other", apart, 0);
        MatrixSheets over = Digs.chain();
        over.phase(0, 1);
        over.phase(LAST, 0);
        checkMisfits("7: over 14 others without phases", over, 0, LAST);
        over.draw(0);
        checkMisfits("7: behind draw", over, 0, LAST);
        over.phase(LAST, 1);
        over.draw(0);
        checkNoMisfit("7: with a sheet", over, 0);
        checks.due("7: the sheet stays", 15, () -> over.links());
    }

    // Promise 8

    private void draw() {
        drawRoundsRefused();
        drawAllRounds();
        drawOneTooManyBends();
        drawMisfits();
        drawFewestAndMostRows();
        drawBands();
        drawOverHidden();
        drawBends();
        drawBendsOfSeveralLinks();
        drawCrossings();
        drawLessThanBefore();
    }

    private void drawRoundsRefused() {
        for (Digs dig : Digs.values()) {
            MatrixSheets x = dig.make();
            for (int wrong : new int[] {LEAST, LEAST + 12, -65536, -256, -13, -12, -2, -1, 13, 14, 256, 65536, GREATEST}) {
                checks.due("8: wrong rounds, " + dig, Checks.ARGUMENT, () -> x.draw(wrong));
            }
            checks.due("8: the sheet stays, " + dig, dig.hasSheet() ? "true" : Checks.STATE, () -> x.links() >= 0);
        }
    }

    /** The dig has 3 crossings at first, none behind round 1 and one behind each later one. */
    private void drawAllRounds() {
        MatrixSheets x = Digs.SHEET_WITH_BENDS.make();
        for (int rounds = 12; rounds >= 0; rounds--) {
            int asked = rounds;
            checks.due("8: " + rounds + " rounds", rounds == 0 ? 3 : 0, () -> x.draw(asked));
            checks.due("8: place in it", rounds == 0 ? 1 : 3, () -> x.at(4, 1));
            checks.due("9: the last round", rounds == 0 ? 3 : rounds == 1 ? 0 : 1, () -> x.crossings(asked));
            checks.due("9: no round behind it", Checks.INDEX, () -> x.crossings(asked + 1));
        }
    }

    private void drawOneTooManyBends() {
        MatrixSheets x = Digs.chainWith150Bends();
        checks.due("8: 150 bends are drawn", true, () -> x.draw(12) >= 0);
        checkCounts("14: with 150 bends", x, 16, 39, 16, 16, 150);
        checks.due("13: the greatest drawing", 4 * 16 + 6 * 39 + 2 * 150, () -> x.command(-1));
        x.above(2, 4);
        for (int rounds = 0; rounds <= 12; rounds++) {
            int asked = rounds;
            checks.due("8: 151 bends are not", -3, () -> x.draw(asked));
        }
        checkCounts("14: with 151 bends", x, 16, 40, 16, 0, 0);
        checkNoSheet("8: no sheet at -3", x);
        checks.due("8: wrong rounds come first", Checks.ARGUMENT, () -> x.draw(13));
        x.hide(1, true);
        checks.due("8: fewer by a hidden one", true, () -> x.draw(0) >= 0);
        checkCounts("14: 78 from 0 and 5 from 2", x, 16, 40, 16, 15, 83);
    }

    private void drawMisfits() {
        MatrixSheets x = Digs.BEHIND_MISFITS.make();
        checkNoSheet("8: no sheet at -2", x);
        checkCounts("14: no sheet at -2", x, 4, 3, 4, 0, 0);
        checks.due("8: -2 again", -2, () -> x.draw(12));
        checks.due("8: wrong rounds come first", Checks.ARGUMENT, () -> x.draw(-1));
        x.phase(0, 5);
        checks.due("8: one misfit left", -2, () -> x.draw(0));
        x.phase(1, 5);
        checks.due("8: all fit", 0, () -> x.draw(0));
        MatrixSheets both = Digs.BEHIND_TOO_MANY_BENDS.make();
        both.phase(0, 1);
        both.phase(LAST, 0);
        checks.due("8: misfits and too many bends", -2, () -> both.draw(0));
    }

    private void drawFewestAndMostRows() {
        MatrixSheets flat = new MatrixSheets();
        for (int c = LAST; c >= 0; c--) {
            flat.phase(c, 5);
        }
        checks.due("8: all in one row", 0, () -> flat.draw(12));
        checkCounts("14: all in one row", flat, 16, 0, 16, 1, 0);
        MatrixSheets deep = Digs.chain();
        checks.due("8: each in a row of its own", 0, () -> deep.draw(12));
        checkCounts("14: each in a row of its own", deep, 16, 15, 16, 16, 0);
        for (int c = 0; c < 16; c++) {
            checkAt("10: all in one row", flat, c, 0, c);
            checkAt("10: each in a row of its own", deep, c, c, 0);
        }
    }

    private void drawBands() {
        MatrixSheets x = new MatrixSheets();
        for (int c = 0; c < 6; c++) {
            x.phase(c, 5 - c);
            x.phase(6 + c, 5 - c);
        }
        x.phase(LAST, NONE);
        x.draw(0);
        for (int c = 0; c < 6; c++) {
            checkAt("8: six bands", x, c, 5 - c, 0);
            checkAt("8: equal phases in one band", x, 6 + c, 5 - c, 1);
        }
        checkAt("8: without a phase in row 0", x, LAST, 0, 2);
        for (int c = 1; c < 5; c++) {
            x.hide(c, true);
            x.hide(6 + c, true);
        }
        x.draw(0);
        checkAt("8: the least row, not the phase", x, 0, 1, 0);
        x.phase(0, 0);
        x.draw(0);
        checkAt("8: the least phase in row 0", x, 0, 0, 0);
        checkAt("8: pushed by all with a lower phase", x, 6, 1, 0);
        x.phase(0, NONE);
        x.above(6, LAST);
        x.above(LAST, 0);
        x.draw(0);
        checkAt("8: by links below all bands", x, 0, 3, 0);
        checkAt("8: no phase, pushed by its link alone", x, LAST, 2, 0);
    }

    private void drawOverHidden() {
        MatrixSheets x = Digs.chain();
        for (int c = 1; c < LAST; c++) {
            x.hide(c, true);
        }
        x.draw(2);
        checkLinks("8: a link over 14 hidden ones", x, 0, LAST);
        checks.due("8: with no bends", 0, () -> x.count(4));
        checks.due("8: in two rows", 2, () -> x.count(3));
        x.above(0, LAST);
        x.draw(2);
        checkLinks("8: told and over hidden ones: once", x, 0, LAST);
        x.hide(7, false);
        x.draw(2);
        checkLinks("8: not over a drawn one, unless told", x, 0, 7, 0, LAST, 7, LAST);
        x.hide(0, true);
        x.hide(LAST, true);
        x.draw(2);
        checkLinks("8: hidden at both ends", x);
        checkCommands("8: the one in the middle", x, 1, 7, 0, 0);
        x.hide(7, true);
        checks.due("8: all hidden", 0, () -> x.draw(2));
        checkCounts("14: all hidden", x, 16, 16, 16, 0, 0);
        checkCommands("13: all hidden", x);
    }

    private void drawBends() {
        for (int length = 1; length < 16; length++) {
            MatrixSheets x = new MatrixSheets();
            for (int c = 0; c < length; c++) {
                x.above(c, c + 1);
            }
            x.above(0, length);
            x.draw(0);
            int bends = length - 1;
            int link = length == 1 ? 0 : 1;
            checks.due("8: a bend in each row between, " + length, bends, () -> x.count(4));
            checks.due("12: how many bends, " + length, bends, () -> x.link(link, 2));
            for (int what = 3; what < 3 + bends; what++) {
                int asked = what;
                checks.due("12: behind the row's group, " + length, 1, () -> x.link(link, asked));
            }
            checks.due("12: no bend more, " + length, Checks.INDEX, () -> x.link(link, 3 + bends));
        }
    }

    private void drawBendsOfSeveralLinks() {
        MatrixSheets first = Digs.above(0, 3, 1, 2, 2, 3);
        first.draw(0);
        checkLinks("12: the first link has a bend", first, 0, 3, 1, 2, 2, 3);
        checks.due("12: how many bends of the first link", 1, () -> first.link(0, 2));
        checks.due("12: the bend of the first link", 1, () -> first.link(0, 3));
        checks.due("14: the bend of the first link", 1, () -> first.count(4));

        MatrixSheets x = Digs.above(0, 1, 1, 2, 2, 3, 3, 4, 0, 2, 0, 3, 1, 4);
        checks.due("8: two crossings by bends", 2, () -> x.draw(0));
        checkCounts("14: five bends", x, 5, 7, 5, 5, 5);
        checkCommands("13: bends stand behind groups by their links' order", x,
                1, 0, 0, 0, 1, 1, 0, 16, 1, 2, 0, 32, 1, 3, 0, 48, 1, 4, 0, 64,
                2, 2, 0, 0, 0, 16,
                2, 3, 0, 0, 16, 16, 0, 32,
                2, 4, 0, 0, 32, 16, 16, 32, 0, 48,
                2, 2, 0, 16, 0, 32,
                2, 4, 0, 16, 32, 32, 16, 48, 0, 64,
                2, 2, 0, 32, 0, 48,
                2, 2, 0, 48, 0, 64);
        checks.due("12: the upper bend of 0 to 3", 2, () -> x.link(2, 3));
        checks.due("12: the lower bend of 0 to 3", 1, () -> x.link(2, 4));
        checks.due("12: the upper bend of 1 to 4", 2, () -> x.link(4, 3));
        checks.due("12: the lower bend of 1 to 4", 1, () -> x.link(4, 4));
    }

    private void drawLessThanBefore() {
        MatrixSheets x = Digs.chainWith150Bends();
        x.draw(12);
        for (int c = 1; c < 15; c++) {
            x.hide(c, true);
        }
        checks.due("8: two of sixteen rows", 0, () -> x.draw(1));
        checkCounts("14: two of sixteen rows", x, 16, 39, 16, 2, 0);
        checkCommands("13: two of sixteen rows", x, 1, 0, 0, 0, 1, 15, 0, 16, 2, 2, 0, 0, 0, 16);
        MatrixSheets upperHalf = new MatrixSheets();
        for (int c = 0; c < 64; c++) {
            upperHalf.above(c / 8, 8 + c % 8);
        }
        upperHalf.draw(3);
        for (int c = 8; c < 16; c++) {
            upperHalf.hide(c, true);
        }
        checks.due("8: one of two rows", 0, () -> upperHalf.draw(2));
        checkCrossings("9: one of two rows", upperHalf, 0, 0, 0);
        checkLinks("12: one of two rows", upperHalf);
    }

    // The rounds are worked out by hand.
    private void drawRounds() {
        MatrixSheets sums = Digs.above(0, 5, 1, 3, 2, 3, 1, 4);
        checks.due("8: a key is the average of all places", 0, () -> sums.draw(1));
        checkCrossings("9: a key is the average of all places", sums, 4, 0);
        checkAt("8: key 1.5", sums, 3, 1, 2);
        checkAt("8: key 1", sums, 4, 1, 1);
        checkAt("8: key 0", sums, 5, 1, 0);

        MatrixSheets upperRow = Digs.above(2, 3);
        upperRow.phase(0, NONE);
        upperRow.phase(1, NONE);
        checks.due("8: a round that changes row 0 for nothing", 0, () -> upperRow.draw(1));
        checkAt("8: row 0 stays as at first", upperRow, 1, 0, 1);
        checkAt("8: row 0 stays as at first", upperRow, 2, 0, 2);
    }

    private void drawCrossings() {
        MatrixSheets most = new MatrixSheets();
        MatrixSheets fanDown = new MatrixSheets();
        MatrixSheets fanUp = new MatrixSheets();
        for (int a = 0; a < 8; a++) {
            for (int b = 8; b < 16; b++) {
                most.above(a, b);
            }
        }
        for (int c = 0; c < 15; c++) {
            fanDown.above(LAST, c);
            fanUp.above(c, LAST);
        }
        checks.due("8: eight above eight", 784, () -> most.draw(12));
        checkCounts("14: eight above eight", most, 16, 64, 16, 2, 0);
        checks.due("11: eight above eight", 64, () -> most.links());
        checks.due("8: pieces with one beginning don't cross", 0, () -> fanDown.draw(0));
        checks.due("8: pieces with one end don't cross", 0, () -> fanUp.draw(0));
        MatrixSheets one = Digs.above(0, LAST, 1, 14);
        checks.due("8: one crossing", 1, () -> one.draw(0));
        checks.due("8: no crossing behind a round", 0, () -> one.draw(1));
        MatrixSheets otherRows = Digs.above(1, 2, 3, 4, 2, 5, 4, 6);
        checks.due("8: ahead in both rows", 0, () -> otherRows.draw(0));
    }

    // Promise 9

    private void crossings() {
        for (Digs dig : Digs.values()) {
            MatrixSheets x = dig.make();
            for (int wrong : new int[] {LEAST, LEAST + 1, -65536, -256, -2, -1}) {
                checks.due("9: below 0, " + dig, Checks.INDEX, () -> x.crossings(wrong));
            }
            for (int k = 0; k <= 12; k++) {
                int asked = k;
                if (!dig.hasSheet()) {
                    checks.due("9: no sheet, " + dig, Checks.STATE, () -> x.crossings(asked));
                } else if (k > dig.rounds) {
                    checks.due("9: no such round, " + dig, Checks.INDEX, () -> x.crossings(asked));
                } else {
                    checks.due("9: a round, " + dig, true, () -> x.crossings(asked) >= 0);
                }
            }
            if (dig.hasSheet()) {
                for (int wrong : new int[] {13, 14, 256, 65536, GREATEST - 1, GREATEST}) {
                    checks.due("9: beyond all rounds, " + dig, Checks.INDEX, () -> x.crossings(wrong));
                }
            }
        }
        checkCrossings("9: no links", Digs.SHEET_WITHOUT_LINKS.make(), 0);
        checkCrossings("9: 0 is at first", Digs.SHEET_WITH_BENDS.make(), 3, 0, 1);
        MatrixSheets latest = Digs.SHEET_WITH_BENDS.make();
        latest.draw(1);
        checkCrossings("9: of the latest draw", latest, 3, 0);
        latest.hide(7, true);
        latest.draw(0);
        checkCrossings("9: of the latest draw, with less in it", latest, 2);
    }

    // Promise 10

    private void at() {
        for (Digs dig : Digs.values()) {
            MatrixSheets x = dig.make();
            for (int wrong : NO_CONTEXTS) {
                checks.due("10: no such context, " + dig, Checks.INDEX, () -> x.at(wrong, 0));
                checks.due("10: no such context, " + dig, Checks.INDEX, () -> x.at(wrong, 1));
            }
            for (int wrong : new int[] {LEAST, -256, -2, -1, 2, 3, 256, 257, GREATEST}) {
                checks.due("10: neither row nor place, " + dig, Checks.INDEX, () -> x.at(0, wrong));
                checks.due("10: neither row nor place, " + dig, Checks.INDEX, () -> x.at(LAST, wrong));
            }
            for (int c = 0; c < 16 && !dig.hasSheet(); c++) {
                int context = c;
                checks.due("10: no sheet, row, " + dig, Checks.STATE, () -> x.at(context, 0));
                checks.due("10: no sheet, place, " + dig, Checks.STATE, () -> x.at(context, 1));
            }
        }
        MatrixSheets x = Digs.SHEET_WITHOUT_LINKS.make();
        int[] rows = {1, NONE, 0, NONE, 0, NONE, NONE, NONE, NONE, NONE, NONE, 0, NONE, NONE, NONE, 0};
        int[] places = {0, NONE, 0, NONE, 1, NONE, NONE, NONE, NONE, NONE, NONE, 1, NONE, NONE, NONE, 2};
        for (int c = 0; c < 16; c++) {
            checkAt("10: drawn, hidden or not there", x, c, rows[c], places[c]);
        }
        MatrixSheets member = Digs.above(0, 1);
        member.same(1, LAST);
        member.hide(LAST, true);
        member.draw(0);
        checkAt("10: a hidden context of a drawn group", member, LAST, 1, 0);
        member.hide(1, true);
        member.draw(0);
        checkAt("10: of a hidden group", member, LAST, NONE, NONE);
    }

    // Promises 11 and 12

    private void linksAndLink() {
        for (Digs dig : Digs.values()) {
            MatrixSheets x = dig.make();
            for (int wrong : new int[] {LEAST, LEAST + 1, -65536, -256, -2, -1}) {
                checks.due("12: no link below 0, " + dig, Checks.INDEX, () -> x.link(wrong, 0));
                checks.due("12: no number below 0, " + dig, Checks.INDEX, () -> x.link(0, wrong));
                checks.due("12: both below 0, " + dig, Checks.INDEX, () -> x.link(wrong, wrong));
            }
            if (dig.hasSheet()) {
                checkBehindTheLastLink("12: behind the last one, " + dig, x);
            } else {
                checks.due("11: no sheet, " + dig, Checks.STATE, () -> x.links());
                checks.due("12: no sheet, " + dig, Checks.STATE, () -> x.link(0, 0));
                checks.due("12: no sheet, " + dig, Checks.STATE, () -> x.link(0, 2));
            }
        }
        checkLinks("11, 12: without links", Digs.SHEET_WITHOUT_LINKS.make());
        checkLinks("11, 12: all hidden", Digs.ALL_HIDDEN.make());
        checkLinks("11, 12: all in one group", Digs.ALL_IN_ONE_GROUP.make());
        checkLinks("11, 12: by upper, then lower", Digs.SHEET_WITH_BENDS.make(), 0, 1, 1, 6, 2, 6, 2, 7, 3, 4, 4, 5);
        checks.due("11: most bends", 39, () -> Digs.ALL_TOLD_MOST_BENDS.make().links());
    }

    private void checkBehindTheLastLink(String title, MatrixSheets x) {
        int links = x.links();
        for (int wrong : new int[] {links, links + 1, 256, 65536, GREATEST - 1, GREATEST}) {
            for (int what : new int[] {0, 1, 2, 3, GREATEST}) {
                checks.due(title, Checks.INDEX, () -> x.link(wrong, what));
            }
        }
        if (links > 0) {
            int bends = x.link(links - 1, 2);
            for (int wrong : new int[] {3 + bends, 4 + bends, 256, 65536, GREATEST - 2, GREATEST - 1, GREATEST}) {
                checks.due(title + ", its numbers", Checks.INDEX, () -> x.link(links - 1, wrong));
            }
        }
    }

    // Promise 13

    private void command() {
        for (Digs dig : Digs.values()) {
            MatrixSheets x = dig.make();
            for (int wrong : new int[] {LEAST, LEAST + 1, -65536, -256, -3, -2}) {
                checks.due("13: below -1, " + dig, Checks.INDEX, () -> x.command(wrong));
            }
            if (dig.hasSheet()) {
                int numbers = x.command(-1);
                for (int wrong : new int[] {numbers, numbers + 1, 65536, GREATEST - 1, GREATEST}) {
                    checks.due("13: behind the last one, " + dig, Checks.INDEX, () -> x.command(wrong));
                }
            } else {
                checks.due("13: no sheet, how many, " + dig, Checks.STATE, () -> x.command(-1));
                checks.due("13: no sheet, " + dig, Checks.STATE, () -> x.command(0));
            }
        }
        checkCommands("13: without links", Digs.SHEET_WITHOUT_LINKS.make(),
                1, 2, 0, 0, 1, 4, 16, 0, 1, 15, 32, 0, 1, 0, 0, 16);
        checkCommands("13: all hidden", Digs.ALL_HIDDEN.make());
        MatrixSheets one = Digs.above(LAST, 0);
        one.draw(12);
        checkCommands("13: one link", one, 1, 15, 0, 0, 1, 0, 0, 16, 2, 2, 0, 0, 0, 16);
        commandsOfTheLongestLink();
    }

    private void commandsOfTheLongestLink() {
        MatrixSheets x = Digs.chain();
        x.above(0, LAST);
        x.draw(0);
        checks.due("13: how many", 4 * 16 + 6 * 16 + 2 * 14, () -> x.command(-1));
        for (int c = 0; c < 16; c++) {
            int first = 4 * c;
            int[] numbers = {1, c, 0, 16 * c};
            for (int i = 0; i < 4; i++) {
                int asked = first + i;
                checks.due("13: groups by rows", numbers[i], () -> x.command(asked));
            }
        }
        int link = 4 * 16 + 6;
        checks.due("13: the second link", 2, () -> x.command(link));
        checks.due("13: its 16 points", 16, () -> x.command(link + 1));
        for (int row = 0; row < 16; row++) {
            int place = row == 0 || row == LAST ? 0 : 16;
            int asked = link + 2 + 2 * row;
            int height = 16 * row;
            checks.due("13: 16 * place of point " + row, place, () -> x.command(asked));
            checks.due("13: 16 * row of point " + row, height, () -> x.command(asked + 1));
        }
        checks.due("13: the next link", 2, () -> x.command(link + 34));
        checks.due("13: the last number", 16 * LAST, () -> x.command(187));
        checks.due("13: no more", Checks.INDEX, () -> x.command(188));
    }

    // Promise 14

    private void count() {
        for (Digs dig : Digs.values()) {
            MatrixSheets x = dig.make();
            for (int wrong : new int[] {LEAST, LEAST + 1, -256, -2, -1, 5, 6, 8, 256, 65536, GREATEST - 1, GREATEST}) {
                checks.due("14: none of these, " + dig, Checks.INDEX, () -> x.count(wrong));
            }
            if (!dig.hasSheet()) {
                checks.due("14: no rows without a sheet, " + dig, 0, () -> x.count(3));
                checks.due("14: no bends without a sheet, " + dig, 0, () -> x.count(4));
            }
        }
        checkCounts("14: nothing told", Digs.NOTHING_TOLD.make(), 0, 0, 0, 0, 0);
        checkCounts("14: told", Digs.TOLD_BUT_NOT_DRAWN.make(), 4, 4, 4, 0, 0);
        checkCounts("14: without links", Digs.SHEET_WITHOUT_LINKS.make(), 6, 1, 5, 2, 0);
        checkCounts("14: with a bend", Digs.SHEET_WITH_BENDS.make(), 8, 6, 8, 3, 1);
        checkCounts("14: gone", Digs.SHEET_GONE.make(), 8, 6, 8, 0, 0);
        checkCounts("14: all hidden", Digs.ALL_HIDDEN.make(), 16, 15, 16, 0, 0);
        checkCounts("14: all in one group", Digs.ALL_IN_ONE_GROUP.make(), 16, 0, 1, 1, 0);
        checkCounts("14: all told", Digs.ALL_TOLD_MOST_BENDS.make(), 16, 39, 16, 16, 150);
        checkCounts("14: behind -3", Digs.BEHIND_TOO_MANY_BENDS.make(), 16, 40, 16, 0, 0);
        checkCounts("14: behind -2", Digs.BEHIND_MISFITS.make(), 4, 3, 4, 0, 0);
    }

    /** The calls up to the 512th one are promised, refused ones among them too. */
    private void lastCall() {
        MatrixSheets x = Digs.chain();
        for (int call = 16; call <= 510; call++) {
            int asked = call;
            switch (call % 3) {
                case 0:
                    Checks.outcome(() -> x.draw(asked % 13));
                    break;
                case 1:
                    Checks.outcome(() -> x.above(asked % 16, 16));
                    break;
                default:
                    Checks.outcome(() -> x.phase(LAST, asked % 2 == 0 ? 5 : NONE));
                    break;
            }
        }
        checks.due("8: the call last but one", 0, () -> x.draw(12));
        checks.due("13: the last call", 4 * 16 + 6 * 15, () -> x.command(-1));
    }

    // What several promises have in common

    private void checkNoSheet(String title, MatrixSheets x) {
        checks.due(title + ": crossings", Checks.STATE, () -> x.crossings(0));
        checks.due(title + ": row", Checks.STATE, () -> x.at(0, 0));
        checks.due(title + ": place", Checks.STATE, () -> x.at(LAST, 1));
        checks.due(title + ": links", Checks.STATE, () -> x.links());
        checks.due(title + ": link", Checks.STATE, () -> x.link(0, 0));
        checks.due(title + ": how many numbers", Checks.STATE, () -> x.command(-1));
        checks.due(title + ": number", Checks.STATE, () -> x.command(0));
        checks.due(title + ": rows", 0, () -> x.count(3));
        checks.due(title + ": bends", 0, () -> x.count(4));
    }

    private void checkNoMisfit(String title, MatrixSheets x, int howMany) {
        for (int k : new int[] {howMany, howMany + 1, 256, 65536, GREATEST - 1, GREATEST}) {
            checks.due(title + ", upper one of " + k, NONE, () -> x.misfit(k, 0));
            checks.due(title + ", lower one of " + k, NONE, () -> x.misfit(k, 1));
        }
    }

    private void checkMisfits(String title, MatrixSheets x, int upper, int lower) {
        checks.due(title + ", upper one", upper, () -> x.misfit(0, 0));
        checks.due(title + ", lower one", lower, () -> x.misfit(0, 1));
        checkNoMisfit(title, x, 1);
    }

    private void checkAt(String title, MatrixSheets x, int context, int row, int place) {
        checks.due(title + ", row of " + context, row, () -> x.at(context, 0));
        checks.due(title + ", place of " + context, place, () -> x.at(context, 1));
    }

    private void checkCrossings(String title, MatrixSheets x, int... behind) {
        for (int k = 0; k < behind.length; k++) {
            int asked = k;
            checks.due(title + ", round " + k, behind[k], () -> x.crossings(asked));
        }
        checks.due(title + ", no more rounds", Checks.INDEX, () -> x.crossings(behind.length));
    }

    private void checkLinks(String title, MatrixSheets x, int... pairs) {
        int links = pairs.length / 2;
        checks.due(title + ", how many", links, () -> x.links());
        for (int i = 0; i < pairs.length; i++) {
            int asked = i;
            checks.due(title + ", number " + i, pairs[i], () -> x.link(asked / 2, asked % 2));
        }
        checks.due(title + ", no more", Checks.INDEX, () -> x.link(links, 0));
    }

    private void checkCommands(String title, MatrixSheets x, int... numbers) {
        checks.due(title + ", how many", numbers.length, () -> x.command(-1));
        for (int i = 0; i < numbers.length; i++) {
            int asked = i;
            checks.due(title + ", number " + i, numbers[i], () -> x.command(asked));
        }
        checks.due(title + ", no more", Checks.INDEX, () -> x.command(numbers.length));
    }

    private void checkCounts(String title, MatrixSheets x, int... counts) {
        for (int what = 0; what < counts.length; what++) {
            int asked = what;
            checks.due(title + ", count " + what, counts[what], () -> x.count(asked));
        }
    }
}
