/**
 * What an object answers, as a text. It comes in parts, each for an object of
 * its own: one object is asked for at most 512 calls, those that made it too.
 */
final class Picture {
    static final int PARTS = 4;
    private static final int MOST_ASKED = 400;

    private final MatrixSheets x;
    private final StringBuilder text = new StringBuilder();

    private Picture(MatrixSheets x) {
        this.x = x;
    }

    static String of(MatrixSheets x, int part) {
        Picture picture = new Picture(x);
        switch (part) {
            case 0:
                picture.addGroupsAndPlaces();
                break;
            case 1:
                picture.addLinks();
                break;
            case 2:
                picture.addCommands();
                break;
            default:
                picture.addWhatIsToldLater();
                break;
        }
        return picture.text.toString();
    }

    private void add(String name, Checks.Call call) {
        text.append(name).append(' ').append(Checks.outcome(call)).append('\n');
    }

    private void addGroupsAndPlaces() {
        addCounts();
        for (int c = 0; c < 16; c++) {
            int asked = c;
            add("group", () -> x.group(asked));
            add("row", () -> x.at(asked, 0));
            add("place", () -> x.at(asked, 1));
        }
        for (int k = 0; k < 20; k++) {
            int asked = k;
            add("upper misfit", () -> x.misfit(asked, 0));
            add("lower misfit", () -> x.misfit(asked, 1));
            add("crossings", () -> x.crossings(asked));
        }
    }

    private void addCounts() {
        for (int what = 0; what < 5; what++) {
            int asked = what;
            add("count", () -> x.count(asked));
        }
    }

    private void addLinks() {
        add("links", () -> x.links());
        int asked = 0;
        for (int k = 0; asked < MOST_ASKED && !isRefused(k, 0); k++) {
            for (int what = 0; !isRefused(k, what); what++) {
                asked++;
            }
        }
    }

    private boolean isRefused(int k, int what) {
        String answer = Checks.outcome(() -> x.link(k, what));
        text.append("link ").append(answer).append('\n');
        return answer.endsWith("Exception");
    }

    private void addCommands() {
        for (int i = -1; i < MOST_ASKED; i++) {
            int asked = i;
            add("command", () -> x.command(asked));
        }
    }

    /** What changes and how: the pairs, groups, phases and hidden ones that are held inside show by it. */
    private void addWhatIsToldLater() {
        for (int c = 0; c < 16; c++) {
            int asked = c;
            add("above", () -> x.above(asked, (asked + 3) % 16));
            add("below", () -> x.above((asked + 1) % 16, asked));
            add("same", () -> x.same(asked, (asked + 5) % 16));
            add("shown", () -> x.hide(asked, false));
            add("phase", () -> x.phase(asked, asked / 4));
        }
        add("draw", () -> x.draw(3));
        addGroupsAndPlaces();
        for (int c = 0; c < 16; c++) {
            int asked = c;
            add("no phase", () -> x.phase(asked, MatrixSheets.NONE));
        }
        add("draw", () -> x.draw(2));
        addGroupsAndPlaces();
    }
}
