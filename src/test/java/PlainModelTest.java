import java.util.Random;

/** Random runs of at most 512 calls, each answer compared with the plain model's. */
public final class PlainModelTest {
    private static final int RUNS = 200;
    private static final int CALLS = 512;

    private final Checks checks = new Checks("plain model");
    private int misfitting = 0;
    private int tooManyBends = 0;
    private int betterByRounds = 0;
    private int worseLater = 0;
    private int manyBends = 0;

    public static void main(String[] args) {
        PlainModelTest test = new PlainModelTest();
        for (int run = 0; run < RUNS && !test.checks.failed(); run++) {
            test.oneRun(run);
        }
        test.checkWhatWasMet();
        test.checks.end();
    }

    /** Runs that never met a case would prove nothing of it. */
    private void checkWhatWasMet() {
        System.out.println("met: -2 " + misfitting + ", -3 " + tooManyBends + ", better by rounds " + betterByRounds
                + ", worse in a later round " + worseLater + ", over 60 bends " + manyBends);
        checks.equal("each case was met", "true", String.valueOf(
                misfitting > 0 && tooManyBends > 0 && betterByRounds > 0 && worseLater > 0 && manyBends > 0));
    }

    private void oneRun(int run) {
        Random random = new Random(run);
        MatrixSheets sheets = new MatrixSheets();
        PlainModel model = new PlainModel();
        boolean downOnly = random.nextInt(4) != 0;
        int phaseShare = random.nextInt(3) == 0 ? 4 : 0;
        int hideShare = random.nextInt(3) == 0 ? 0 : 3;
        int sameShare = random.nextInt(3) == 0 ? 0 : 2;
        int toldAtFirst = random.nextInt(110);
        int width = 6 + random.nextInt(11);
        int calls = 0;
        while (calls < toldAtFirst) {
            tell(run, sheets, model, random, downOnly, width);
            calls++;
        }
        while (calls < CALLS) {
            int pick = random.nextInt(60);
            if (pick < 3) {
                tell(run, sheets, model, random, downOnly, width);
            } else if (pick < 3 + sameShare) {
                int a = number(random, width);
                int b = number(random, width);
                compare(run, "same", a, b, () -> sheets.same(a, b), () -> model.same(a, b));
            } else if (pick < 5 + phaseShare) {
                phase(run, sheets, model, random, phaseShare > 0);
            } else if (pick < 9 + hideShare) {
                int c = number(random, width);
                boolean on = random.nextInt(3) == 0;
                compare(run, "hide", c, on ? 1 : 0, () -> sheets.hide(c, on), () -> model.hide(c, on));
            } else if (pick < 20) {
                draw(run, sheets, model, random);
            } else {
                ask(run, sheets, model, random);
            }
            calls++;
        }
    }

    /** A context that now and then is none. */
    private static int number(Random random, int width) {
        return random.nextInt(40) == 0 ? random.nextInt(60) - 20 : random.nextInt(width);
    }

    private void tell(int run, MatrixSheets sheets, PlainModel model, Random random, boolean downOnly, int width) {
        int one = number(random, width);
        int other = number(random, width);
        int a = downOnly ? Math.min(one, other) : one;
        int b = downOnly ? Math.max(one, other) : other;
        compare(run, "above", a, b, () -> sheets.above(a, b), () -> model.above(a, b));
    }

    private void phase(int run, MatrixSheets sheets, PlainModel model, Random random, boolean often) {
        int c = number(random, 16);
        // Phases that mostly grow with the number misfit less often, so that sheets come about.
        int p = random.nextInt(8) == 0 ? random.nextInt(10) - 2 : often && c >= 0 ? c / 3 : -1;
        compare(run, "phase", c, p, () -> sheets.phase(c, p), () -> model.phase(c, p));
    }

    private void draw(int run, MatrixSheets sheets, PlainModel model, Random random) {
        int rounds = random.nextInt(20) == 0 ? random.nextInt(40) - 14 : random.nextInt(13);
        String answer = compare(run, "draw", rounds, 0, () -> sheets.draw(rounds), () -> model.draw(rounds));
        misfitting += answer.equals("-2") ? 1 : 0;
        tooManyBends += answer.equals("-3") ? 1 : 0;
        if (answer.equals(Checks.ARGUMENT) || answer.startsWith("-")) {
            return;
        }
        manyBends += model.count(4) > 60 ? 1 : 0;
        betterByRounds += model.crossings(0) > Integer.parseInt(answer) ? 1 : 0;
        worseLater += model.crossings(rounds) > Integer.parseInt(answer) && model.crossings(0) > Integer.parseInt(answer)
                ? 1 : 0;
    }

    private void ask(int run, MatrixSheets sheets, PlainModel model, Random random) {
        int a = number(random, 16);
        int what = random.nextInt(20) - 1;
        int k = random.nextInt(random.nextInt(2) == 0 ? 8 : 130) - 1;
        switch (random.nextInt(8)) {
            case 0:
                compare(run, "group", a, 0, () -> sheets.group(a), () -> model.group(a));
                break;
            case 1:
                int which = random.nextInt(4) - 1;
                compare(run, "misfit", k, which, () -> sheets.misfit(k, which), () -> model.misfit(k, which));
                break;
            case 2:
                int round = random.nextInt(16) - 1;
                compare(run, "crossings", round, 0, () -> sheets.crossings(round), () -> model.crossings(round));
                break;
            case 3:
                int side = random.nextInt(12) == 0 ? random.nextInt(4) - 1 : random.nextInt(2);
                compare(run, "at", a, side, () -> sheets.at(a, side), () -> model.at(a, side));
                break;
            case 4:
                compare(run, "links", 0, 0, () -> sheets.links(), () -> model.links());
                break;
            case 5:
                int few = random.nextInt(2) == 0 ? what : random.nextInt(6);
                compare(run, "link", k, few, () -> sheets.link(k, few), () -> model.link(k, few));
                break;
            case 6:
                int i = random.nextInt(random.nextInt(2) == 0 ? 80 : 900) - 2;
                compare(run, "command", i, 0, () -> sheets.command(i), () -> model.command(i));
                break;
            default:
                int counted = random.nextInt(7) - 1;
                compare(run, "count", counted, 0, () -> sheets.count(counted), () -> model.count(counted));
                break;
        }
    }

    private String compare(int run, String name, int x, int y, Checks.Call call, Checks.Call plain) {
        String want = Checks.outcome(plain);
        checks.equal("run " + run + ": " + name + " " + x + " " + y, want, Checks.outcome(call));
        return want;
    }
}
