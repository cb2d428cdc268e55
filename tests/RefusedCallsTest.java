/**
 * "A call that returns an error changes nothing and is no edit", for each call that can be
 * refused, in states with no edits, some, and as many as can be undone.
 */
final class RefusedCallsTest {
    private static final int INVALID_ARGUMENT = -101;
    private static final int INVALID_STATE = -102;
    private static final int LIMIT_REACHED = -103;
    private static final int NOT_FOUND = -104;
    private static final int MIN = Integer.MIN_VALUE;
    private static final int MAX = Integer.MAX_VALUE;

    private final String state;
    private final int n;
    private final int p;
    private final Twins.Maker maker;

    private RefusedCallsTest(String state, int n, int p, Twins.Maker maker) {
        this.state = state;
        this.n = n;
        this.p = p;
        this.maker = maker;
    }

    public static void main(String[] args) {
        RefusedCallsTest[] states = {
            new RefusedCallsTest("new", 4, 3, PopularMatchings::new),
            new RefusedCallsTest("lists alone", 4, 3, () -> edited(0)),
            new RefusedCallsTest("an edit", 4, 3, () -> edited(1)),
            new RefusedCallsTest("five edits", 4, 3, () -> edited(5)),
            new RefusedCallsTest("eight edits", 4, 3, () -> edited(8)),
            new RefusedCallsTest("undone edits", 4, 3, RefusedCallsTest::undone),
            new RefusedCallsTest("all undone", 4, 3, RefusedCallsTest::allUndone),
            new RefusedCallsTest("the least numbers", 1, 1, RefusedCallsTest::least),
            new RefusedCallsTest("the greatest numbers", 6, 5, RefusedCallsTest::greatest),
            new RefusedCallsTest("numbers that have become less", 3, 2, RefusedCallsTest::fewer),
        };
        for (RefusedCallsTest one : states) {
            one.applicantOutOfRange();
            one.postOutOfRange();
            one.numberOutOfRange();
        }
        for (int edits = 0; edits <= 8; edits++) {
            notInTheRightState(edits);
            aPostIsFull(edits);
            notFound(edits);
        }
        nothingToUndo();
        noPopularMatching();
        noEditBetweenEdits();
        noErrorMixesArgumentsUp();
        Check.end("RefusedCallsTest");
    }

    /** Lists "012", "10", "2", ""; post 2 has two places; so many edits, with saves among them. */
    private static PopularMatchings edited(int edits) {
        PopularMatchings x = new PopularMatchings();
        x.setCapacity(2, 2);
        Check.listing(x, "012", "10", "2");
        int[] posts = {2, 1, 0, 2, 1, -1, 2, 0};
        for (int edit = 0; edit < edits; edit++) {
            x.assign(0, posts[edit]);
            if (edit % 3 == 0) {
                x.save();
            }
        }
        return x;
    }

    private static PopularMatchings undone() {
        PopularMatchings x = edited(7);
        x.undo();
        x.undo();
        return x;
    }

    private static PopularMatchings allUndone() {
        PopularMatchings x = edited(3);
        x.undo();
        x.undo();
        x.undo();
        return x;
    }

    private static PopularMatchings least() {
        PopularMatchings x = Check.withReset(1, 1, "0");
        x.assign(0, 0);
        x.save();
        x.assign(0, -1);
        return x;
    }

    private static PopularMatchings greatest() {
        PopularMatchings x = Check.withReset(6, 5, "01234", "01234", "12340", "23401", "34012", "40123");
        x.adoptSerial(0);
        x.save();
        x.adoptSerial(3);
        return x;
    }

    private static PopularMatchings fewer() {
        PopularMatchings x = greatest();
        x.reset(3, 2);
        Check.listing(x, "01", "10", "0");
        x.adoptSerial(0);
        x.save();
        x.adoptChallenger();
        return x;
    }

    private void refused(String call, Twins.Call what) {
        Twins.unchangedBy(state + ": " + call, maker, what, INVALID_ARGUMENT);
    }

    private void applicantOutOfRange() {
        for (int a : new int[] {MIN, -1, n, n + 1, 6, MAX}) {
            refused("appendPreference(" + a + ", 0)", x -> x.appendPreference(a, 0));
            refused("clearPreferences(" + a + ")", x -> x.clearPreferences(a));
            refused("preferenceAt(" + a + ", 0)", x -> x.preferenceAt(a, 0));
            refused("firstPost(" + a + ")", x -> x.firstPost(a));
            refused("secondPost(" + a + ")", x -> x.secondPost(a));
            refused("assign(" + a + ", 0)", x -> x.assign(a, 0));
            refused("assign(" + a + ", NONE)", x -> x.assign(a, -1));
            refused("postOf(" + a + ")", x -> x.postOf(a));
            refused("challengerPost(" + a + ")", x -> x.challengerPost(a));
            refused("adoptSerial(" + a + ")", x -> x.adoptSerial(a));
        }
    }

    private void postOutOfRange() {
        for (int post : new int[] {MIN, -2, p, p + 1, 5, MAX}) {
            refused("setCapacity(" + post + ", 1)", x -> x.setCapacity(post, 1));
            refused("setCapacity(" + post + ", 2)", x -> x.setCapacity(post, 2));
            refused("appendPreference(0, " + post + ")", x -> x.appendPreference(0, post));
            refused("assign(0, " + post + ")", x -> x.assign(0, post));
        }
        refused("setCapacity(NONE, 2)", x -> x.setCapacity(-1, 2));
        refused("appendPreference(0, NONE)", x -> x.appendPreference(0, -1));
    }

    private void numberOutOfRange() {
        for (int capacity : new int[] {MIN, -1, 0, 3, MAX}) {
            refused("setCapacity(0, " + capacity + ")", x -> x.setCapacity(0, capacity));
        }
        for (int index : new int[] {MIN, -1}) {
            refused("preferenceAt(0, " + index + ")", x -> x.preferenceAt(0, index));
            refused("adoptPopular(" + index + ")", x -> x.adoptPopular(index));
        }
        for (int number : new int[] {MIN, -1, 0, 7, MAX}) {
            refused("reset(" + number + ", 2)", x -> x.reset(number, 2));
            refused("reset(2, " + number + ")", x -> x.reset(2, number));
            refused("reset(" + number + ", " + number + ")", x -> x.reset(number, number));
        }
        refused("reset(2, 6)", x -> x.reset(2, 6));
    }

    private static void notInTheRightState(int edits) {
        String when = edits + " edits: ";
        for (int post = 0; post < 3; post++) {
            int listed = post;
            Twins.unchangedBy(when + "appendPreference(0, " + post + ")", () -> edited(edits),
                    x -> x.appendPreference(0, listed), INVALID_STATE);
            Twins.unchangedBy(when + "assign(3, " + post + ")", () -> edited(edits),
                    x -> x.assign(3, listed), INVALID_STATE);
        }
        Twins.unchangedBy(when + "appendPreference(1, 0)", () -> edited(edits), x -> x.appendPreference(1, 0), INVALID_STATE);
        Twins.unchangedBy(when + "assign(1, 2)", () -> edited(edits), x -> x.assign(1, 2), INVALID_STATE);
        Twins.unchangedBy(when + "assign(2, 0)", () -> edited(edits), x -> x.assign(2, 0), INVALID_STATE);
    }

    /** The one who is refused has a post, which it must keep. */
    private static PopularMatchings full(int edits) {
        PopularMatchings x = Check.listing(new PopularMatchings(), "012", "102", "210", "0");
        x.adoptSerial(0);
        for (int edit = 1; edit < edits; edit++) {
            x.assign(3, -1);
        }
        return x;
    }

    private static void aPostIsFull(int edits) {
        String when = edits + " edits: ";
        for (int a = 0; a < 4; a++) {
            int applicant = a;
            if (a != 0) {
                Twins.unchangedBy(when + "assign(" + a + ", 0)", () -> full(edits), x -> x.assign(applicant, 0), LIMIT_REACHED);
            }
            if (a != 1 && a != 3) {
                Twins.unchangedBy(when + "assign(" + a + ", 1)", () -> full(edits), x -> x.assign(applicant, 1), LIMIT_REACHED);
            }
        }
    }

    private static void notFound(int edits) {
        String when = edits + " edits: ";
        Twins.Maker maker = () -> edited(edits);
        Twins.unchangedBy(when + "preferenceAt(0, 3)", maker, x -> x.preferenceAt(0, 3), NOT_FOUND);
        Twins.unchangedBy(when + "preferenceAt(3, 0)", maker, x -> x.preferenceAt(3, 0), NOT_FOUND);
        Twins.unchangedBy(when + "preferenceAt(3, MAX)", maker, x -> x.preferenceAt(3, MAX), NOT_FOUND);
        Twins.unchangedBy(when + "adoptPopular(1)", maker, x -> x.adoptPopular(1), NOT_FOUND);
        Twins.unchangedBy(when + "adoptPopular(MAX)", maker, x -> x.adoptPopular(MAX), NOT_FOUND);
    }

    private static void nothingToUndo() {
        Twins.unchangedBy("new: undo()", PopularMatchings::new, x -> x.undo(), NOT_FOUND);
        Twins.unchangedBy("lists alone: undo()", () -> edited(0), x -> x.undo(), NOT_FOUND);
        Twins.unchangedBy("all undone: undo()", RefusedCallsTest::allUndone, x -> x.undo(), NOT_FOUND);
        Twins.Maker savedAfterUndo = () -> {
            PopularMatchings x = edited(2);
            x.undo();
            x.undo();
            x.save();
            return x;
        };
        Twins.unchangedBy("saved after undo: undo()", savedAfterUndo, x -> x.undo(), NOT_FOUND);
        Twins.Maker dropped = () -> {
            PopularMatchings x = edited(8);
            for (int undo = 0; undo < 5; undo++) {
                x.undo();
            }
            return x;
        };
        Twins.unchangedBy("eight edits, five undone: undo()", dropped, x -> x.undo(), NOT_FOUND);
    }

    private static void noPopularMatching() {
        Twins.Maker maker = () -> {
            PopularMatchings x = Check.withReset(3, 3, "012", "012", "012");
            x.adoptSerial(1);
            x.save();
            x.adoptChallenger();
            return x;
        };
        Twins.unchangedBy("no popular one: adoptPopular(0)", maker, x -> x.adoptPopular(0), NOT_FOUND);
        Twins.unchangedBy("no popular one: greatestPopularSize()", maker, x -> x.greatestPopularSize(), NOT_FOUND);
    }

    /** Refused edits among five that were made: all five can still be undone. */
    private static void noEditBetweenEdits() {
        PopularMatchings x = edited(0);
        int[] held = {2, 1, 0, 2, 1};
        for (int post : held) {
            x.assign(0, post);
            Check.due("assign(4, 0)", x.assign(4, 0), INVALID_ARGUMENT);
            Check.due("assign(1, 2)", x.assign(1, 2), INVALID_STATE);
            Check.due("assign(1, held)", post == 2 ? LIMIT_REACHED : x.assign(1, post), LIMIT_REACHED);
            Check.due("adoptSerial(4)", x.adoptSerial(4), INVALID_ARGUMENT);
            Check.due("adoptPopular(-1)", x.adoptPopular(-1), INVALID_ARGUMENT);
            Check.due("adoptPopular(1)", x.adoptPopular(1), NOT_FOUND);
        }
        for (int left = 4; left >= 0; left--) {
            Check.due("undo()", x.undo(), left);
            Check.due("postOf(0)", x.postOf(0), left == 0 ? -1 : held[left - 1]);
        }
        Check.due("undo()", x.undo(), NOT_FOUND);
    }

    /** One argument in range does not take effect when the other one is refused. */
    private static void noErrorMixesArgumentsUp() {
        PopularMatchings x = new PopularMatchings();
        Check.due("reset(2, 6)", x.reset(2, 6), INVALID_ARGUMENT);
        Check.due("reset(7, 1)", x.reset(7, 1), INVALID_ARGUMENT);
        Check.due("N is 4: postOf(3)", x.postOf(3), -1);
        Check.due("N is 4: postOf(4)", x.postOf(4), INVALID_ARGUMENT);
        Check.due("P is 3: setCapacity(2, 1)", x.setCapacity(2, 1), 1);
        Check.due("P is 3: setCapacity(3, 1)", x.setCapacity(3, 1), INVALID_ARGUMENT);
    }
}
