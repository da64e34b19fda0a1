/** Each promise of the document by itself: ordinary inputs, its edges, and wrong inputs. */
public final class PromisesTest {
    private static final int NONE = MatrixSheets.NONE;

    private final Checks checks = new Checks("promises");

    public static void main(String[] args) {
        PromisesTest test = new PromisesTest();
        test.newObject();
        test.above();
        test.aboveKeepsOrEndsTheSheet();
        test.same();
        test.sameKeepsOrEndsTheSheet();
        test.phase();
        test.hide();
        test.group();
        test.misfit();
        test.drawMisfitsAndBends();
        test.drawRows();
        test.drawLinksOverHidden();
        test.crossings();
        test.keysOfRounds();
        test.firstOfTheFewest();
        test.firstOfEquallyFew();
        test.at();
        test.linksAndLink();
        test.command();
        test.count();
        test.refusedCallsChangeNothing();
        test.checks.end();
    }

    private void newObject() {
        MatrixSheets x = new MatrixSheets();
        for (int what = 0; what < 5; what++) {
            int asked = what;
            checks.due("1: count of a new object", 0, () -> x.count(asked));
        }
        for (int c = 0; c < 16; c++) {
            int asked = c;
            checks.due("1: group of a new object", c, () -> x.group(asked));
        }
        checks.due("1: misfit of a new object", NONE, () -> x.misfit(0, 0));
        checkNoSheet("1: new object", x);
        MatrixSheets other = told(0, 1);
        checks.due("1: objects are apart", 0, () -> x.count(1));
        checks.due("1: objects are apart", 1, () -> other.count(1));
    }

    private void above() {
        MatrixSheets x = new MatrixSheets();
        checks.due("2: a context above itself", NONE, () -> x.above(3, 3));
        checks.due("2: that one is not there", 0, () -> x.count(0));
        checks.due("2: first time", 1, () -> x.above(0, 15));
        checks.due("2: told", 0, () -> x.above(0, 15));
        checks.due("2: the other way", NONE, () -> x.above(15, 0));
        checks.due("2: a chain", 1, () -> x.above(15, 7));
        checks.due("2: what follows may be told too", 1, () -> x.above(0, 7));
        checks.due("2: a ring over others", NONE, () -> x.above(7, 0));
        checks.due("2: pairs", 3, () -> x.count(1));
        checks.due("2: there", 3, () -> x.count(0));
        x.same(7, 9);
        checks.due("2: an equal one's pair was not told itself", 1, () -> x.above(0, 9));
        checks.due("2: pairs of contexts count", 4, () -> x.count(1));
        checks.due("2: a ring over equal ones", NONE, () -> x.above(9, 0));
        checks.due("2: equal ones", NONE, () -> x.above(9, 7));
        for (int wrong : new int[] {-1, 16, Integer.MIN_VALUE, Integer.MAX_VALUE}) {
            checks.due("2: wrong a", Checks.INDEX, () -> x.above(wrong, 0));
            checks.due("2: wrong b", Checks.INDEX, () -> x.above(0, wrong));
            checks.due("2: wrong both", Checks.INDEX, () -> x.above(wrong, wrong));
        }
        checks.due("2: refused calls told nothing", 4, () -> x.count(1));
    }

    private void aboveKeepsOrEndsTheSheet() {
        MatrixSheets x = told(0, 1, 1, 2);
        x.draw(0);
        x.above(0, 1);
        checks.due("2: the sheet stays at 0", 2, () -> x.links());
        x.above(2, 0);
        checks.due("2: the sheet stays at NONE", 2, () -> x.links());
        x.above(0, 2);
        checkNoSheet("2: at 1", x);
        checks.due("2: no rows then", 0, () -> x.count(3));
    }

    private void same() {
        MatrixSheets x = new MatrixSheets();
        checks.due("3: with itself", 0, () -> x.same(5, 5));
        checks.due("3: that one is not there", 0, () -> x.count(0));
        checks.due("3: first time", 1, () -> x.same(5, 2));
        checks.due("3: again", 0, () -> x.same(5, 2));
        checks.due("3: the other way", 0, () -> x.same(2, 5));
        checks.due("3: one more", 1, () -> x.same(5, 9));
        checks.due("3: over others", 0, () -> x.same(2, 9));
        checks.due("3: there", 3, () -> x.count(0));
        x.above(1, 9);
        x.above(2, 12);
        checks.due("3: over", NONE, () -> x.same(1, 5));
        checks.due("3: over, the other way", NONE, () -> x.same(5, 1));
        checks.due("3: over a group between", NONE, () -> x.same(12, 1));
        checks.due("3: NONE changes nothing", 1, () -> x.group(1));
        x.above(3, 4);
        checks.due("3: no ring yet", 1, () -> x.same(4, 1));
        checks.due("3: a ring by the joined ones", NONE, () -> x.same(12, 3));
        for (int wrong : new int[] {-1, 16, Integer.MIN_VALUE, Integer.MAX_VALUE}) {
            checks.due("3: wrong a", Checks.INDEX, () -> x.same(wrong, 0));
            checks.due("3: wrong b", Checks.INDEX, () -> x.same(0, wrong));
        }
    }

    private void sameKeepsOrEndsTheSheet() {
        MatrixSheets x = told(0, 1);
        x.same(2, 3);
        x.draw(0);
        x.same(3, 2);
        x.same(0, 0);
        checks.due("3: the sheet stays at 0", 1, () -> x.links());
        x.same(0, 1);
        checks.due("3: the sheet stays at NONE", 1, () -> x.links());
        x.same(3, 1);
        checkNoSheet("3: at 1", x);
    }

    private void phase() {
        MatrixSheets x = new MatrixSheets();
        checks.due("4: none before", NONE, () -> x.phase(4, 5));
        checks.due("4: what it was", 5, () -> x.phase(4, 0));
        checks.due("4: taken away", 0, () -> x.phase(4, NONE));
        checks.due("4: none", NONE, () -> x.phase(4, NONE));
        checks.due("4: named, so there", 1, () -> x.count(0));
        checks.due("4: NONE names too", NONE, () -> x.phase(6, NONE));
        checks.due("4: there by NONE", 2, () -> x.count(0));
        x.draw(0);
        x.phase(4, NONE);
        checkNoSheet("4: the same phase again", x);
        x.draw(0);
        for (int wrong : new int[] {-2, 6, Integer.MIN_VALUE, Integer.MAX_VALUE}) {
            checks.due("4: wrong phase", Checks.ARGUMENT, () -> x.phase(7, wrong));
        }
        for (int wrong : new int[] {-1, 16, Integer.MIN_VALUE, Integer.MAX_VALUE}) {
            checks.due("4: wrong context", Checks.INDEX, () -> x.phase(wrong, 0));
            checks.due("4: wrong both", Checks.INDEX, () -> x.phase(wrong, 6));
        }
        checks.due("4: a refused one keeps the sheet", 0, () -> x.links());
        checks.due("4: a refused one names nothing", 2, () -> x.count(0));
    }

    private void hide() {
        MatrixSheets x = new MatrixSheets();
        checks.due("5: not hidden anyway", false, () -> x.hide(3, false));
        checks.due("5: no names nothing", 0, () -> x.count(0));
        checks.due("5: hidden now", true, () -> x.hide(3, true));
        checks.due("5: yes names", 1, () -> x.count(0));
        checks.due("5: hidden already", false, () -> x.hide(3, true));
        checks.due("5: shown again", true, () -> x.hide(3, false));
        checks.due("5: shown already", false, () -> x.hide(3, false));
        x.draw(0);
        x.hide(3, false);
        checkNoSheet("5: answered with no", x);
        x.draw(0);
        x.hide(3, true);
        checkNoSheet("5: answered with yes", x);
        x.draw(0);
        for (int wrong : new int[] {-1, 16, Integer.MIN_VALUE, Integer.MAX_VALUE}) {
            checks.due("5: wrong context", Checks.INDEX, () -> x.hide(wrong, true));
            checks.due("5: wrong context", Checks.INDEX, () -> x.hide(wrong, false));
        }
        checks.due("5: a refused one keeps the sheet", 0, () -> x.links());
    }

    private void group() {
        MatrixSheets x = new MatrixSheets();
        x.same(10, 8);
        x.same(15, 12);
        checks.due("6: the least", 8, () -> x.group(10));
        x.same(15, 10);
        for (int c : new int[] {8, 10, 12, 15}) {
            checks.due("6: joined groups", 8, () -> x.group(c));
        }
        x.same(0, 12);
        checks.due("6: a lesser one comes", 0, () -> x.group(15));
        checks.due("6: alone", 9, () -> x.group(9));
        for (int wrong : new int[] {-1, 16, Integer.MIN_VALUE, Integer.MAX_VALUE}) {
            checks.due("6: wrong context", Checks.INDEX, () -> x.group(wrong));
        }
    }

    private void misfit() {
        MatrixSheets x = told(9, 4, 4, 2, 9, 1, 3, 2);
        x.phase(9, 3);
        x.phase(2, 1);
        x.phase(1, 3);
        x.phase(3, 2);
        checkMisfits("7: by upper, then lower; equal phases fit", x, 3, 2, 9, 2);
        x.phase(4, 2);
        checkMisfits("7: also over others", x, 3, 2, 4, 2, 9, 2, 9, 4);
        x.hide(4, true);
        x.hide(2, true);
        checkMisfits("7: hidden ones too", x, 3, 2, 4, 2, 9, 2, 9, 4);
        x.same(9, 0);
        checkMisfits("7: groups by their least", x, 0, 2, 0, 4, 3, 2, 4, 2);
        x.phase(0, 0);
        checkMisfits("7: the least phase is the group's", x, 3, 2, 4, 2);
        x.phase(2, NONE);
        checkMisfits("7: without a phase", x);
        checks.due("7: far behind", NONE, () -> x.misfit(Integer.MAX_VALUE, 1));
        checks.due("7: k below 0", Checks.INDEX, () -> x.misfit(-1, 0));
        checks.due("7: k below 0", Checks.INDEX, () -> x.misfit(Integer.MIN_VALUE, 1));
        checks.due("7: neither", Checks.INDEX, () -> x.misfit(0, 2));
        checks.due("7: neither", Checks.INDEX, () -> x.misfit(0, -1));
    }

    private void drawMisfitsAndBends() {
        MatrixSheets x = new MatrixSheets();
        checks.due("8: an empty sheet", 0, () -> x.draw(12));
        for (int wrong : new int[] {-1, 13, Integer.MIN_VALUE, Integer.MAX_VALUE}) {
            checks.due("8: wrong rounds", Checks.ARGUMENT, () -> x.draw(wrong));
        }
        for (int c = 0; c < 15; c++) {
            x.above(c, c + 1);
        }
        for (int c = 2; c < 16; c++) {
            x.above(0, c);
        }
        for (int c = 3; c < 12; c++) {
            x.above(1, c);
        }
        x.draw(1);
        checks.due("8: 150 bends are drawn", 150, () -> x.count(4));
        checks.due("8: in 16 rows", 16, () -> x.count(3));
        x.above(2, 4);
        checks.due("8: 151 bends are not", -3, () -> x.draw(1));
        checkNoSheet("8: behind -3", x);
        checks.due("8: no bends without a sheet", 0, () -> x.count(4));
        x.phase(0, 1);
        x.phase(15, 0);
        checks.due("8: misfits come first", -2, () -> x.draw(1));
        checkNoSheet("8: behind -2", x);
        x.phase(15, 1);
        x.hide(4, true);
        x.hide(5, true);
        checks.due("8: fewer rows, fewer bends", 14, () -> x.draw(0) >= 0 ? x.count(3) : -1);
    }

    private void drawRows() {
        MatrixSheets x = told(5, 3, 3, 1, 5, 1, 7, 1);
        x.phase(11, NONE);
        x.draw(0);
        checkRows("8: rows by longest ways", x, 5, 0, 3, 1, 1, 2, 7, 0, 11, 0);
        x.phase(7, 2);
        x.phase(11, 4);
        x.phase(3, 0);
        x.draw(0);
        checkRows("8: bands of phases", x, 5, 0, 3, 1, 7, 2, 1, 3, 11, 3);
        x.hide(3, true);
        x.draw(0);
        checkRows("8: hidden ones push nothing", x, 5, 0, 3, NONE, 7, 0, 1, 1, 11, 1);
        x.hide(3, false);
        x.same(3, 6);
        x.hide(3, true);
        x.draw(0);
        checkRows("8: a group with one shown is drawn", x, 3, 1, 6, 1, 7, 2);
        x.hide(6, true);
        x.draw(0);
        checkRows("8: hidden when all are", x, 3, NONE, 6, NONE, 7, 0);
    }

    private void drawLinksOverHidden() {
        MatrixSheets x = told(0, 1, 1, 2, 2, 3, 1, 4, 5, 2);
        x.hide(1, true);
        x.hide(2, true);
        x.draw(3);
        checkLinks("8: over hidden ones alone", x, 0, 3, 0, 4, 5, 3);
        x.hide(2, false);
        x.draw(3);
        checkLinks("8: not over shown ones", x, 0, 2, 0, 4, 2, 3, 5, 2);
        x.above(0, 2);
        x.draw(3);
        checkLinks("8: a pair is one link", x, 0, 2, 0, 4, 2, 3, 5, 2);
        x.same(4, 5);
        x.draw(3);
        checkLinks("8: links of groups", x, 0, 2, 0, 4, 2, 3, 4, 2);
    }

    private void crossings() {
        MatrixSheets x = new MatrixSheets();
        for (int a = 0; a < 3; a++) {
            for (int b = 3; b < 6; b++) {
                x.above(a, b);
            }
        }
        checks.due("9: each with each", 9, () -> x.draw(2));
        for (int k = 0; k < 3; k++) {
            int asked = k;
            checks.due("9: behind each round", 9, () -> x.crossings(asked));
        }
        checks.due("9: no such round", Checks.INDEX, () -> x.crossings(3));
        checks.due("9: below 0", Checks.INDEX, () -> x.crossings(-1));
        x.draw(0);
        checks.due("9: of the latest draw", Checks.INDEX, () -> x.crossings(1));
        x.draw(12);
        checks.due("9: round 12", 9, () -> x.crossings(12));
        checks.due("9: no round 13", Checks.INDEX, () -> x.crossings(13));
        x.hide(0, true);
        checks.due("9: no sheet", Checks.STATE, () -> x.crossings(0));
        checks.due("9: below 0 comes first", Checks.INDEX, () -> x.crossings(-1));
        x.draw(0);
        checks.due("9: two with three", 3, () -> x.crossings(0));
    }

    private void keysOfRounds() {
        MatrixSheets equalKeys = told(0, 4, 2, 4, 1, 3, 0, 5);
        checks.due("8: averages", 1, () -> equalKeys.draw(1));
        checks.due("9: at first", 3, () -> equalKeys.crossings(0));
        checks.due("9: behind round 1", 1, () -> equalKeys.crossings(1));
        checkPlaces("8: equal keys stay as they were", equalKeys, 0, 0, 1, 1, 2, 2, 5, 0, 3, 1, 4, 2);

        MatrixSheets noPieces = told(1, 4, 0, 5);
        noPieces.phase(2, 0);
        noPieces.phase(3, 1);
        noPieces.phase(4, 1);
        checks.due("8: own places", 0, () -> noPieces.draw(1));
        checks.due("9: own places at first", 1, () -> noPieces.crossings(0));
        checkPlaces("8: without pieces by the own place", noPieces, 0, 0, 1, 1, 2, 2, 3, 0, 5, 1, 4, 2);

        MatrixSheets wayDown = told(0, 4, 1, 3, 2, 3);
        wayDown.draw(0);
        checkPlaces("8: groups by number at first", wayDown, 0, 0, 1, 1, 2, 2, 3, 0, 4, 1);
        wayDown.draw(1);
        checkPlaces("8: the way down comes first", wayDown, 0, 0, 1, 1, 2, 2, 4, 0, 3, 1);

        MatrixSheets wayUp = told(0, 3, 2, 3, 1, 4);
        checks.due("8: the way up", 0, () -> wayUp.draw(1));
        checkPlaces("8: the way up goes to row 0", wayUp, 0, 0, 2, 1, 1, 2, 3, 0, 4, 1);

        MatrixSheets halves = told(0, 3, 1, 3, 0, 4);
        checks.due("8: averages are not rounded", 0, () -> halves.draw(1));
        checkPlaces("8: a half is more than 0", halves, 4, 0, 3, 1);
    }

    private void firstOfEquallyFew() {
        MatrixSheets x = told(2, 3);
        x.phase(0, 0);
        x.phase(1, NONE);
        x.phase(4, 1);
        checks.due("8: none at first, none behind a round", 0, () -> x.draw(5));
        checkPlaces("8: what there was at first stays", x, 3, 0, 4, 1);
    }

    /** Worked out by hand: round 1 has none, round 2 puts 7 behind 4 again (7 goes by its own place on the way up). */
    private void firstOfTheFewest() {
        MatrixSheets x = told(2, 7, 1, 6, 0, 1, 4, 5, 2, 6, 3, 4);
        checks.due("8: the fewest of all rounds", 0, () -> x.draw(3));
        int[] behind = {3, 0, 1, 1};
        for (int k = 0; k < behind.length; k++) {
            int asked = k;
            checks.due("9: behind round " + k, behind[k], () -> x.crossings(asked));
        }
        checkPlaces("8: the first with the fewest", x, 0, 0, 1, 0, 2, 1, 3, 2, 4, 3, 5, 1, 6, 0, 7, 2);
        checks.due("12: the bend of that round", 1, () -> x.link(2, 3));
        x.draw(0);
        checkPlaces("8: as at first", x, 0, 0, 1, 0, 2, 1, 3, 2, 4, 1, 5, 0, 6, 1, 7, 2);
        checks.due("12: the bend at first", 3, () -> x.link(2, 3));
    }

    private void at() {
        MatrixSheets x = told(0, 1, 1, 2, 0, 2);
        x.same(2, 8);
        x.hide(5, true);
        x.draw(0);
        checkRows("10: rows", x, 0, 0, 1, 1, 2, 2, 8, 2, 5, NONE, 15, NONE);
        checkPlaces("10: places", x, 0, 0, 1, 0, 2, 0, 8, 0, 5, NONE, 15, NONE);
        for (int wrong : new int[] {-1, 16, Integer.MIN_VALUE, Integer.MAX_VALUE}) {
            checks.due("10: wrong context", Checks.INDEX, () -> x.at(wrong, 0));
        }
        for (int wrong : new int[] {-1, 2, Integer.MIN_VALUE, Integer.MAX_VALUE}) {
            checks.due("10: wrong what", Checks.INDEX, () -> x.at(0, wrong));
        }
        x.hide(5, false);
        checks.due("10: no sheet", Checks.STATE, () -> x.at(0, 0));
        checks.due("10: wrong context comes first", Checks.INDEX, () -> x.at(16, 0));
        checks.due("10: wrong what comes first", Checks.INDEX, () -> x.at(0, 2));
    }

    private void linksAndLink() {
        MatrixSheets x = told(0, 1, 1, 2, 2, 3, 0, 3, 0, 2);
        checks.due("11: no sheet", Checks.STATE, () -> x.links());
        x.draw(0);
        checkLinks("12: by upper, then lower", x, 0, 1, 0, 2, 0, 3, 1, 2, 2, 3);
        checks.due("12: no bends", 0, () -> x.link(0, 2));
        checks.due("12: nothing behind them", Checks.INDEX, () -> x.link(0, 3));
        checks.due("12: two bends", 2, () -> x.link(2, 2));
        checks.due("12: the upper bend", 2, () -> x.link(2, 3));
        checks.due("12: the lower bend", 1, () -> x.link(2, 4));
        checks.due("12: no third one", Checks.INDEX, () -> x.link(2, 5));
        checks.due("12: no such link", Checks.INDEX, () -> x.link(5, 0));
        checks.due("12: below 0", Checks.INDEX, () -> x.link(-1, 0));
        checks.due("12: below 0", Checks.INDEX, () -> x.link(0, -1));
        checks.due("12: far off", Checks.INDEX, () -> x.link(Integer.MAX_VALUE, 0));
        checks.due("12: far off", Checks.INDEX, () -> x.link(0, Integer.MAX_VALUE));
        x.phase(0, NONE);
        checks.due("12: no sheet", Checks.STATE, () -> x.link(0, 0));
        checks.due("12: below 0 comes first", Checks.INDEX, () -> x.link(-1, 0));
        checks.due("12: below 0 comes first", Checks.INDEX, () -> x.link(0, -1));
        MatrixSheets empty = new MatrixSheets();
        empty.draw(0);
        checks.due("11: an empty sheet", 0, () -> empty.links());
        checks.due("12: an empty sheet", Checks.INDEX, () -> empty.link(0, 0));
    }

    private void command() {
        MatrixSheets x = told(0, 1, 1, 2, 0, 2);
        checks.due("13: no sheet", Checks.STATE, () -> x.command(-1));
        checks.due("13: below -1 comes first", Checks.INDEX, () -> x.command(-2));
        x.draw(0);
        checkCommands("13: groups, then links", x,
                1, 0, 0, 0, 1, 1, 0, 16, 1, 2, 0, 32,
                2, 2, 0, 0, 0, 16, 2, 3, 0, 0, 16, 16, 0, 32, 2, 2, 0, 16, 0, 32);
        MatrixSheets turned = told(1, 2, 0, 3);
        turned.draw(1);
        checkCommands("13: by places, not by number", turned,
                1, 0, 0, 0, 1, 1, 16, 0, 1, 3, 0, 16, 1, 2, 16, 16,
                2, 2, 0, 0, 0, 16, 2, 2, 16, 0, 16, 16);
        MatrixSheets empty = new MatrixSheets();
        empty.draw(0);
        checkCommands("13: an empty sheet", empty);
        MatrixSheets alone = new MatrixSheets();
        alone.phase(15, 5);
        alone.draw(12);
        checkCommands("13: one group", alone, 1, 15, 0, 0);
    }

    private void count() {
        MatrixSheets x = told(0, 1, 1, 2, 0, 2);
        x.same(2, 8);
        x.hide(5, true);
        checkCounts("14: without a sheet", x, 5, 3, 4, 0, 0);
        x.draw(0);
        checkCounts("14: with a sheet", x, 5, 3, 4, 3, 1);
        x.hide(5, true);
        checkCounts("14: the sheet is gone", x, 5, 3, 4, 0, 0);
        for (int wrong : new int[] {-1, 5, Integer.MIN_VALUE, Integer.MAX_VALUE}) {
            checks.due("14: none of these", Checks.INDEX, () -> x.count(wrong));
        }
    }

    private void refusedCallsChangeNothing() {
        MatrixSheets x = told(0, 2, 1, 2, 1, 3, 0, 3);
        x.draw(2);
        Checks.Call[] refused = {
            () -> x.above(16, 0), () -> x.same(0, -1), () -> x.phase(-1, 0), () -> x.phase(0, 6),
            () -> x.hide(16, true), () -> x.draw(13), () -> x.draw(-1),
        };
        for (Checks.Call call : refused) {
            Checks.outcome(call);
            checkCounts("a refused call", x, 4, 4, 4, 2, 0);
            checks.due("a refused call: rounds of the sheet", 1, () -> x.crossings(2));
        }
    }

    private static MatrixSheets told(int... pairs) {
        MatrixSheets x = new MatrixSheets();
        for (int i = 0; i < pairs.length; i += 2) {
            x.above(pairs[i], pairs[i + 1]);
        }
        return x;
    }

    private void checkNoSheet(String title, MatrixSheets x) {
        checks.due(title + ": crossings", Checks.STATE, () -> x.crossings(0));
        checks.due(title + ": at", Checks.STATE, () -> x.at(0, 0));
        checks.due(title + ": links", Checks.STATE, () -> x.links());
        checks.due(title + ": link", Checks.STATE, () -> x.link(0, 0));
        checks.due(title + ": command", Checks.STATE, () -> x.command(-1));
        checks.due(title + ": command", Checks.STATE, () -> x.command(0));
    }

    private void checkMisfits(String title, MatrixSheets x, int... pairs) {
        for (int i = 0; i < pairs.length; i++) {
            int asked = i;
            checks.due(title + ", number " + i, pairs[i], () -> x.misfit(asked / 2, asked % 2));
        }
        checks.due(title + ", no more", NONE, () -> x.misfit(pairs.length / 2, 0));
        checks.due(title + ", no more", NONE, () -> x.misfit(pairs.length / 2, 1));
    }

    private void checkRows(String title, MatrixSheets x, int... contextAndRow) {
        checkAt(title, x, 0, contextAndRow);
    }

    private void checkPlaces(String title, MatrixSheets x, int... contextAndPlace) {
        checkAt(title, x, 1, contextAndPlace);
    }

    private void checkAt(String title, MatrixSheets x, int what, int... contextAndAnswer) {
        for (int i = 0; i < contextAndAnswer.length; i += 2) {
            int context = contextAndAnswer[i];
            checks.due(title + ", context " + context, contextAndAnswer[i + 1], () -> x.at(context, what));
        }
    }

    private void checkLinks(String title, MatrixSheets x, int... pairs) {
        checks.due(title + ", how many", pairs.length / 2, () -> x.links());
        for (int i = 0; i < pairs.length; i++) {
            int asked = i;
            checks.due(title + ", number " + i, pairs[i], () -> x.link(asked / 2, asked % 2));
        }
    }

    private void checkCommands(String title, MatrixSheets x, int... numbers) {
        checks.due(title + ", how many", numbers.length, () -> x.command(-1));
        for (int i = 0; i < numbers.length; i++) {
            int asked = i;
            checks.due(title + ", number " + i, numbers[i], () -> x.command(asked));
        }
        checks.due(title + ", behind the last", Checks.INDEX, () -> x.command(numbers.length));
        checks.due(title + ", far off", Checks.INDEX, () -> x.command(Integer.MAX_VALUE));
        checks.due(title + ", below -1", Checks.INDEX, () -> x.command(-2));
    }

    private void checkCounts(String title, MatrixSheets x, int... counts) {
        for (int what = 0; what < counts.length; what++) {
            int asked = what;
            checks.due(title + ", count " + what, counts[what], () -> x.count(asked));
        }
    }
}
