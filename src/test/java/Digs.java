import java.util.function.Supplier;

/** The states in which boundary cases are looked at; each is made anew, by at most 60 calls. */
enum Digs {
    NOTHING_TOLD(Digs.NO_SHEET, MatrixSheets::new),
    EMPTY_SHEET(12, Digs::emptySheet),
    TOLD_BUT_NOT_DRAWN(Digs.NO_SHEET, () -> above(0, 1, 1, 2, 0, 2, 3, 2)),
    SHEET_GONE(Digs.NO_SHEET, Digs::sheetGone),
    SHEET_WITHOUT_LINKS(0, Digs::sheetWithoutLinks),
    SHEET_WITH_BENDS(2, Digs::sheetWithBends),
    ALL_IN_ONE_GROUP(1, Digs::allInOneGroup),
    ALL_HIDDEN(3, Digs::allHidden),
    ALL_TOLD_MOST_BENDS(12, Digs::mostBends),
    BEHIND_TOO_MANY_BENDS(Digs.NO_SHEET, Digs::behindTooManyBends),
    BEHIND_MISFITS(Digs.NO_SHEET, Digs::behindMisfits);

    private static final int NO_SHEET = -1;

    /** With how many rounds the sheet was drawn. */
    final int rounds;
    private final Supplier<MatrixSheets> maker;

    Digs(int rounds, Supplier<MatrixSheets> maker) {
        this.rounds = rounds;
        this.maker = maker;
    }

    boolean hasSheet() {
        return rounds != NO_SHEET;
    }

    MatrixSheets make() {
        return maker.get();
    }

    /** A new object to which pairs were told, the upper one first. */
    static MatrixSheets above(int... pairs) {
        MatrixSheets x = new MatrixSheets();
        for (int i = 0; i < pairs.length; i += 2) {
            x.above(pairs[i], pairs[i + 1]);
        }
        return x;
    }

    /** 0 above 1, 1 above 2, and so on to the last context. */
    static MatrixSheets chain() {
        MatrixSheets x = new MatrixSheets();
        for (int c = 0; c < 15; c++) {
            x.above(c, c + 1);
        }
        return x;
    }

    /** A chain of 16, and links from 0, 1 and 2 with 91 + 55 + 4 = 150 bends; not drawn yet. */
    static MatrixSheets chainWith150Bends() {
        MatrixSheets x = chain();
        for (int c = 2; c < 15; c++) {
            x.above(0, c);
        }
        for (int c = 3; c < 13; c++) {
            x.above(1, c);
        }
        x.above(2, 7);
        return x;
    }

    private static MatrixSheets emptySheet() {
        MatrixSheets x = new MatrixSheets();
        x.draw(12);
        return x;
    }

    private static MatrixSheets sheetGone() {
        MatrixSheets x = sheetWithBends();
        x.hide(1, true);
        return x;
    }

    private static MatrixSheets sheetWithoutLinks() {
        MatrixSheets x = above(2, 9);
        x.hide(9, true);
        x.phase(0, 1);
        x.phase(15, 0);
        x.same(4, 11);
        x.draw(0);
        return x;
    }

    /** Two rounds: 3 crossings at first, none behind round 1, one behind round 2. */
    private static MatrixSheets sheetWithBends() {
        MatrixSheets x = above(2, 7, 1, 6, 0, 1, 4, 5, 2, 6, 3, 4);
        x.draw(2);
        return x;
    }

    private static MatrixSheets allInOneGroup() {
        MatrixSheets x = new MatrixSheets();
        for (int c = 15; c > 0; c--) {
            x.same(c, c - 1);
        }
        x.draw(1);
        return x;
    }

    private static MatrixSheets allHidden() {
        MatrixSheets x = chain();
        for (int c = 0; c < 16; c++) {
            x.hide(c, true);
        }
        x.draw(3);
        return x;
    }

    private static MatrixSheets mostBends() {
        MatrixSheets x = chainWith150Bends();
        x.draw(12);
        return x;
    }

    private static MatrixSheets behindTooManyBends() {
        MatrixSheets x = chainWith150Bends();
        x.above(2, 4);
        x.draw(12);
        return x;
    }

    private static MatrixSheets behindMisfits() {
        MatrixSheets x = above(8, 4, 4, 0, 8, 1);
        x.phase(8, 5);
        x.phase(0, 0);
        x.phase(1, 4);
        x.draw(0);
        return x;
    }
}
