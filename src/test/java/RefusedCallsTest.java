import java.util.ArrayList;
import java.util.List;
import java.util.function.Function;

/**
 * "Such a call changes nothing": in each state of Digs each kind of refused
 * call throws the exception that is due, and behind it the object answers
 * like a twin to which the call was not made.
 */
public final class RefusedCallsTest {
    private static final int LEAST = Integer.MIN_VALUE;
    private static final int GREATEST = Integer.MAX_VALUE;
    private static final int[] NO_CONTEXTS = {LEAST, -1, 16, GREATEST};
    private static final int[] NO_PHASES = {LEAST, -2, 6, GREATEST};
    private static final int[] NO_ROUNDS = {LEAST, -1, 13, GREATEST};
    private static final int[] NOT_0_OR_1 = {LEAST, -1, 2, GREATEST};
    private static final int[] BELOW_0 = {LEAST, -1};

    private static final class Refused {
        final String name;
        final String due;
        final Function<MatrixSheets, Object> call;

        Refused(String name, String due, Function<MatrixSheets, Object> call) {
            this.name = name;
            this.due = due;
            this.call = call;
        }
    }

    private final Checks checks = new Checks("refused calls");
    private List<Refused> refused;

    public static void main(String[] args) {
        RefusedCallsTest test = new RefusedCallsTest();
        for (Digs dig : Digs.values()) {
            test.checkIn(dig);
        }
        test.checks.end();
    }

    private void checkIn(Digs dig) {
        refused = new ArrayList<>();
        addWrongContexts();
        addWrongArguments();
        addWrongOnesOfAnySheet();
        if (dig.hasSheet()) {
            addWhatThisSheetLacks(dig.make(), dig.rounds);
        } else {
            addMissingSheet();
        }
        for (int part = 0; part < Picture.PARTS; part++) {
            String twin = Picture.of(dig.make(), part);
            for (Refused one : refused) {
                String title = dig + ": " + one.name;
                MatrixSheets x = dig.make();
                checks.due(title, one.due, () -> one.call.apply(x));
                checks.equal(title + ", and then as before, part " + part, twin, Picture.of(x, part));
            }
        }
    }

    private void add(String name, String due, Function<MatrixSheets, Object> call) {
        refused.add(new Refused(name, due, call));
    }

    private void addWrongContexts() {
        for (int wrong : NO_CONTEXTS) {
            for (int right : new int[] {0, 15, wrong}) {
                add("above(" + wrong + ", " + right + ")", Checks.INDEX, x -> x.above(wrong, right));
                add("above(" + right + ", " + wrong + ")", Checks.INDEX, x -> x.above(right, wrong));
                add("same(" + wrong + ", " + right + ")", Checks.INDEX, x -> x.same(wrong, right));
                add("same(" + right + ", " + wrong + ")", Checks.INDEX, x -> x.same(right, wrong));
            }
            for (int p : new int[] {LEAST, -2, -1, 0, 5, 6, GREATEST}) {
                add("phase(" + wrong + ", " + p + ")", Checks.INDEX, x -> x.phase(wrong, p));
            }
            add("hide(" + wrong + ", true)", Checks.INDEX, x -> x.hide(wrong, true));
            add("hide(" + wrong + ", false)", Checks.INDEX, x -> x.hide(wrong, false));
            add("group(" + wrong + ")", Checks.INDEX, x -> x.group(wrong));
            for (int what : new int[] {-1, 0, 1, 2}) {
                add("at(" + wrong + ", " + what + ")", Checks.INDEX, x -> x.at(wrong, what));
            }
        }
    }

    private void addWrongArguments() {
        for (int wrong : NO_PHASES) {
            add("phase(0, " + wrong + ")", Checks.ARGUMENT, x -> x.phase(0, wrong));
            add("phase(15, " + wrong + ")", Checks.ARGUMENT, x -> x.phase(15, wrong));
        }
        for (int wrong : NO_ROUNDS) {
            add("draw(" + wrong + ")", Checks.ARGUMENT, x -> x.draw(wrong));
        }
    }

    /** Numbers that no sheet could have: refused so with a sheet and without one. */
    private void addWrongOnesOfAnySheet() {
        for (int wrong : NOT_0_OR_1) {
            for (int right : new int[] {0, GREATEST}) {
                add("misfit(" + right + ", " + wrong + ")", Checks.INDEX, x -> x.misfit(right, wrong));
            }
            add("at(0, " + wrong + ")", Checks.INDEX, x -> x.at(0, wrong));
            add("at(15, " + wrong + ")", Checks.INDEX, x -> x.at(15, wrong));
        }
        for (int wrong : BELOW_0) {
            for (int which : new int[] {-1, 0, 1, 2}) {
                add("misfit(" + wrong + ", " + which + ")", Checks.INDEX, x -> x.misfit(wrong, which));
                add("link(" + wrong + ", " + which + ")", Checks.INDEX, x -> x.link(wrong, which));
            }
            add("link(0, " + wrong + ")", Checks.INDEX, x -> x.link(0, wrong));
            add("crossings(" + wrong + ")", Checks.INDEX, x -> x.crossings(wrong));
            add("count(" + wrong + ")", Checks.INDEX, x -> x.count(wrong));
        }
        add("command(least)", Checks.INDEX, x -> x.command(LEAST));
        add("command(-2)", Checks.INDEX, x -> x.command(-2));
        add("count(5)", Checks.INDEX, x -> x.count(5));
        add("count(greatest)", Checks.INDEX, x -> x.count(GREATEST));
    }

    private void addMissingSheet() {
        for (int k = 0; k <= 12; k += 4) {
            int round = k;
            add("crossings(" + round + ")", Checks.STATE, x -> x.crossings(round));
        }
        for (int what = 0; what < 2; what++) {
            int rowOrPlace = what;
            add("at(0, " + what + ")", Checks.STATE, x -> x.at(0, rowOrPlace));
            add("at(15, " + what + ")", Checks.STATE, x -> x.at(15, rowOrPlace));
        }
        add("links()", Checks.STATE, x -> x.links());
        for (int what = 0; what < 4; what++) {
            int asked = what;
            add("link(0, " + what + ")", Checks.STATE, x -> x.link(0, asked));
        }
        add("command(-1)", Checks.STATE, x -> x.command(-1));
        add("command(0)", Checks.STATE, x -> x.command(0));
    }

    /** Behind the last round, link, number of a link and number of the drawing; the scout tells how many there are. */
    private void addWhatThisSheetLacks(MatrixSheets scout, int rounds) {
        int links = scout.links();
        int numbers = scout.command(-1);
        for (int wrong : new int[] {rounds + 1, 13, GREATEST}) {
            add("crossings(" + wrong + ")", Checks.INDEX, x -> x.crossings(wrong));
        }
        for (int wrong : new int[] {links, links + 1, GREATEST}) {
            for (int what : new int[] {0, 2, 3, GREATEST}) {
                add("link(" + wrong + ", " + what + ")", Checks.INDEX, x -> x.link(wrong, what));
            }
        }
        for (int k = 0; k < links; k++) {
            int asked = k;
            int behind = 3 + scout.link(k, 2);
            add("link(" + k + ", " + behind + ")", Checks.INDEX, x -> x.link(asked, behind));
            add("link(" + k + ", greatest)", Checks.INDEX, x -> x.link(asked, GREATEST));
        }
        for (int wrong : new int[] {numbers, numbers + 1, GREATEST}) {
            add("command(" + wrong + ")", Checks.INDEX, x -> x.command(wrong));
        }
    }
}
