/**
 * Long runs of calls, drawn by a fixed rule, on the program and on the model at once. After each
 * call the present matching is compared too, and its margin over the saved one.
 */
final class RandomRunsTest {
    private static final int RUNS = 400;
    private static final int CALLS = 512;

    private long seed;
    private final PopularMatchings x = new PopularMatchings();
    private final Model model = new Model();
    private final StringBuilder calls = new StringBuilder();

    private RandomRunsTest(long seed) {
        this.seed = seed * 0x9E3779B97F4A7C15L + 1;
    }

    public static void main(String[] args) {
        for (int run = 0; run < RUNS && !Check.tooManyWrong(); run++) {
            new RandomRunsTest(run).run(run);
        }
        for (int run = 0; run < 40 && !Check.tooManyWrong(); run++) {
            new RandomRunsTest(1000 + run).runOnLargeInstance();
        }
        Check.end("RandomRunsTest");
    }

    private int draw(int bound) {
        seed = seed * 6364136223846793005L + 1442695040888963407L;
        return (int) ((seed >>> 33) % bound);
    }

    /** Mostly from -1 to bound, seldom far out. */
    private int argument(int bound) {
        int far = draw(60);
        if (far == 0) {
            return Integer.MIN_VALUE;
        }
        if (far == 1) {
            return Integer.MAX_VALUE;
        }
        return draw(8) == 0 ? draw(bound + 3) - 2 : draw(bound);
    }

    private void run(int run) {
        int changes = 3 + run % 20;
        for (int call = 0; call < CALLS && !Check.tooManyWrong(); call++) {
            if (call < 30 || draw(60) < changes) {
                changeInstance(draw(call < 3 ? 1 : 12));
            } else {
                callOne(draw(18));
            }
        }
    }

    private void runOnLargeInstance() {
        int n = 5 + draw(2);
        int p = 4 + draw(2);
        same("reset(" + n + ", " + p + ")", x.reset(n, p), model.reset(n, p));
        for (int post = 0; post < p; post++) {
            int capacity = 1 + draw(2);
            same("setCapacity(" + post + ", " + capacity + ")", x.setCapacity(post, capacity), model.setCapacity(post, capacity));
        }
        for (int i = 0; i < n * p; i++) {
            int a = draw(n);
            int post = draw(p);
            same("appendPreference(" + a + ", " + post + ")", x.appendPreference(a, post), model.appendPreference(a, post));
        }
        for (int call = 0; call < 60; call++) {
            callOne(draw(18));
        }
    }

    private void changeInstance(int which) {
        int a = argument(6);
        int post = argument(5);
        if (which == 0) {
            int n = argument(6) + 1;
            int p = argument(5) + 1;
            same("reset(" + n + ", " + p + ")", x.reset(n, p), model.reset(n, p));
        } else if (which == 1) {
            int capacity = argument(2) + 1;
            same("setCapacity(" + post + ", " + capacity + ")", x.setCapacity(post, capacity), model.setCapacity(post, capacity));
        } else if (which == 2) {
            same("clearPreferences(" + a + ")", x.clearPreferences(a), model.clearPreferences(a));
        } else {
            same("appendPreference(" + a + ", " + post + ")", x.appendPreference(a, post), model.appendPreference(a, post));
        }
    }

    private void callOne(int which) {
        int a = argument(6);
        int post = argument(6) - 1;
        int index = argument(draw(2) == 0 ? 3 : 15);
        switch (which) {
            case 0: same("preferenceAt(" + a + ", " + index + ")", x.preferenceAt(a, index), model.preferenceAt(a, index)); break;
            case 1: same("firstPost(" + a + ")", x.firstPost(a), model.firstPost(a)); break;
            case 2: same("secondPost(" + a + ")", x.secondPost(a), model.secondPost(a)); break;
            case 3: same("assign(" + a + ", " + post + ")", x.assign(a, post), model.assign(a, post)); break;
            case 4: same("postOf(" + a + ")", x.postOf(a), model.postOf(a)); break;
            case 5: same("size()", x.size(), model.size()); break;
            case 6: same("isParetoOptimal()", x.isParetoOptimal(), model.isParetoOptimal()); break;
            case 7: same("save()", x.save(), model.save()); break;
            case 8: same("swapSaved()", x.swapSaved(), model.swapSaved()); break;
            case 9: same("marginOverSaved()", x.marginOverSaved(), model.marginOverSaved()); break;
            case 10: same("unpopularityMargin()", x.unpopularityMargin(), model.unpopularityMargin()); break;
            case 11: same("challengerPost(" + a + ")", x.challengerPost(a), model.challengerPost(a)); break;
            case 12: same("adoptChallenger()", x.adoptChallenger(), model.adoptChallenger()); break;
            case 13: same("popularCount()", x.popularCount(), model.popularCount()); break;
            case 14: same("greatestPopularSize()", x.greatestPopularSize(), model.greatestPopularSize()); break;
            case 15: same("adoptPopular(" + index + ")", x.adoptPopular(index), model.adoptPopular(index)); break;
            case 16: same("adoptSerial(" + a + ")", x.adoptSerial(a), model.adoptSerial(a)); break;
            default: same("undo()", x.undo(), model.undo()); break;
        }
    }

    private void same(String call, int answer, int want) {
        calls.append(call).append(" = ").append(want).append("; ");
        Check.due(call, answer, want);
        for (int a = 0; a <= 6; a++) {
            Check.due("after " + call + ": postOf(" + a + ")", x.postOf(a), model.postOf(a));
        }
        Check.due("after " + call + ": marginOverSaved()", x.marginOverSaved(), model.marginOverSaved());
        if (Check.tooManyWrong()) {
            System.out.println("the run: " + calls);
        }
    }
}
