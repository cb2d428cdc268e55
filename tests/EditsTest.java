/**
 * Which edits can still be undone, and how many ("Edits and errors", promises 9, 13, 14, 18 and
 * 21 to 23). The sentence that a test rests on stands above it.
 */
final class EditsTest {
    private static final String[] EDIT_NAMES = {"assign", "adoptChallenger", "adoptPopular", "adoptSerial", "swapSaved"};

    public static void main(String[] args) {
        for (int kind = 0; kind < EDIT_NAMES.length; kind++) {
            eachKindIsAnEdit(kind);
            anEditThatChangesNothing(kind);
            fiveCanBeUndone(kind);
            aSixthDropsTheOldest(kind);
            savedIsRestoredWith(kind);
        }
        noneToBeUndone();
        howManyCanBeUndone();
        manyEdits();
        undoneEditsMakeRoom();
        undoIsNoEdit();
        saveIsNoEdit();
        questionsAreNoEdits();
        undoIsNotUndone();
        savedBeforeEachEdit();
        savedBeforeEachOfManyEdits();
        swapOfUnlikeMatchings();
        Check.end("EditsTest");
    }

    /** Lists "012", "10", "2", "" with one place a post, and no edit so far. */
    private static PopularMatchings fresh() {
        return Check.listing(new PopularMatchings(), "012", "10", "2");
    }

    private static int edit(PopularMatchings x, int kind) {
        switch (kind) {
            case 0: return x.assign(0, x.postOf(0) == 1 ? 2 : 1);
            case 1: return x.adoptChallenger();
            case 2: return x.adoptPopular(0);
            case 3: return x.adoptSerial(0);
            default: return x.swapSaved();
        }
    }

    /** "assign, adoptChallenger, adoptPopular, adoptSerial and swapSaved are edits of the present matching." */
    private static void eachKindIsAnEdit(int kind) {
        PopularMatchings x = fresh();
        x.assign(2, 2);
        x.save();
        x.assign(2, -1);
        edit(x, kind);
        String after = Twins.postsOf(x);
        Check.due(EDIT_NAMES[kind] + " changes the matching", after.startsWith("-1 -1 -1 -1") ? 1 : 0, 0);
        Check.due(EDIT_NAMES[kind] + ": undo()", x.undo(), 2);
        Check.posts(EDIT_NAMES[kind] + ", undone", x, -1, -1, -1, -1);
        Check.due(EDIT_NAMES[kind] + ": undo()", x.undo(), 1);
        Check.posts(EDIT_NAMES[kind] + ", undone twice", x, -1, -1, 2, -1);
    }

    /** Each of them "is an edit", without a condition: also where the present matching stays as it was. */
    private static void anEditThatChangesNothing(int kind) {
        PopularMatchings x = new PopularMatchings();
        Check.due(EDIT_NAMES[kind] + " of nothing", kind == 0 ? x.assign(0, -1) : edit(x, kind), kind == 0 ? -1 : 0);
        Check.posts(EDIT_NAMES[kind] + " of nothing", x, -1, -1, -1, -1);
        Check.due(EDIT_NAMES[kind] + " of nothing: undo()", x.undo(), 0);
        Check.due(EDIT_NAMES[kind] + " of nothing: undo()", x.undo(), -104);
    }

    /** "The last 5 edits can be undone": five of each kind. */
    private static void fiveCanBeUndone(int kind) {
        PopularMatchings x = fresh();
        for (int edit = 0; edit < 5; edit++) {
            edit(x, kind);
        }
        for (int left = 4; left >= 0; left--) {
            Check.due("five of " + EDIT_NAMES[kind] + ": undo()", x.undo(), left);
        }
        Check.posts("five of " + EDIT_NAMES[kind] + ", undone", x, -1, -1, -1, -1);
        Check.due("five of " + EDIT_NAMES[kind] + ": undo()", x.undo(), -104);
    }

    /** The same: with a sixth edit the oldest can't be undone any more. */
    private static void aSixthDropsTheOldest(int kind) {
        PopularMatchings x = fresh();
        int[] held = {2, 1, 2, 0, 1};
        for (int post : held) {
            x.assign(0, post);
        }
        edit(x, kind);
        for (int left = 4; left >= 0; left--) {
            Check.due("sixth, " + EDIT_NAMES[kind] + ": undo()", x.undo(), left);
            Check.due("sixth, " + EDIT_NAMES[kind] + ": postOf(0)", x.postOf(0), held[left]);
        }
        Check.due("sixth, " + EDIT_NAMES[kind] + ": undo()", x.undo(), -104);
        Check.due("sixth, " + EDIT_NAMES[kind] + ": postOf(0)", x.postOf(0), 2);
    }

    /** "undoing restores the present and the saved matching", whichever edit is undone. */
    private static void savedIsRestoredWith(int kind) {
        PopularMatchings x = fresh();
        x.assign(1, 1);
        x.save();
        x.assign(1, -1);
        x.assign(0, 2);
        edit(x, kind);
        x.save();
        Check.due(EDIT_NAMES[kind] + ": undo()", x.undo(), 3);
        Check.posts(EDIT_NAMES[kind] + ", undone", x, 2, -1, -1, -1);
        Check.due(EDIT_NAMES[kind] + ": swapSaved()", x.swapSaved(), 1);
        Check.posts(EDIT_NAMES[kind] + ", saved", x, -1, 1, -1, -1);
        Check.due(EDIT_NAMES[kind] + ": swapSaved()", x.swapSaved(), 1);
        Check.posts(EDIT_NAMES[kind] + ", swapped back", x, 2, -1, -1, -1);
    }

    /** Promise 23: "NOT_FOUND if there is none". */
    private static void noneToBeUndone() {
        PopularMatchings x = new PopularMatchings();
        for (int time = 0; time < 3; time++) {
            Check.due("new: undo()", x.undo(), -104);
        }
        PopularMatchings y = fresh();
        y.adoptSerial(0);
        Check.due("undo()", y.undo(), 0);
        for (int time = 0; time < 3; time++) {
            Check.due("all undone: undo()", y.undo(), -104);
            Check.posts("all undone", y, -1, -1, -1, -1);
        }
        y.adoptSerial(0);
        Check.due("one edit again: undo()", y.undo(), 0);
    }

    /** Promise 23: "Returns the number of edits that can still be undone", 0 to 4. */
    private static void howManyCanBeUndone() {
        for (int edits = 1; edits <= 12; edits++) {
            PopularMatchings x = fresh();
            for (int edit = 0; edit < edits; edit++) {
                edit(x, edit % 5);
            }
            for (int left = Math.min(edits, 5) - 1; left >= 0; left--) {
                Check.due(edits + " edits: undo()", x.undo(), left);
            }
            Check.due(edits + " edits: undo()", x.undo(), -104);
        }
    }

    /** "The last 5 edits", after ever so many. */
    private static void manyEdits() {
        PopularMatchings x = fresh();
        int[] held = new int[400];
        for (int edit = 0; edit < 400; edit++) {
            held[edit] = edit * 7 % 11 % 4 - 1;
            x.assign(0, held[edit]);
        }
        for (int left = 4; left >= 0; left--) {
            Check.due("400 edits: undo()", x.undo(), left);
            Check.due("400 edits: postOf(0)", x.postOf(0), held[394 + left]);
        }
        Check.due("400 edits: undo()", x.undo(), -104);
    }

    /** Promise 23: "the latest edit that has not been undone", when edits follow undone ones. */
    private static void undoneEditsMakeRoom() {
        for (int undone = 1; undone <= 5; undone++) {
            PopularMatchings x = fresh();
            int[] held = {1, 2, 0, 1, 2};
            for (int post : held) {
                x.assign(0, post);
            }
            for (int undo = 1; undo <= undone; undo++) {
                Check.due("undo()", x.undo(), 5 - undo);
            }
            Check.due("an edit: assign(3, NONE)", x.assign(3, -1), -1);
            Check.due("an edit: assign(3, NONE)", x.assign(3, -1), -1);
            int left = Math.min(5 - undone + 2, 5);
            Check.due(undone + " undone, two made: undo()", x.undo(), left - 1);
            Check.due(undone + " undone, two made: undo()", x.undo(), left - 2);
            for (int more = left - 3; more >= 0; more--) {
                Check.due(undone + " undone, two made: undo()", x.undo(), more);
                int edit = more + (undone == 1 ? 1 : 0);
                Check.due(undone + " undone, two made: postOf(0)", x.postOf(0), edit == 0 ? -1 : held[edit - 1]);
            }
            Check.due(undone + " undone, two made: undo()", x.undo(), -104);
        }
    }

    /** undo is not among the edits, so it makes none that could be undone. */
    private static void undoIsNoEdit() {
        PopularMatchings x = fresh();
        x.assign(0, 0);
        x.assign(0, 1);
        Check.due("undo()", x.undo(), 1);
        Check.due("the edit before, not the undo: undo()", x.undo(), 0);
        Check.posts("the edit before", x, -1, -1, -1, -1);
    }

    /** Promise 13: "(This is no edit.)" */
    private static void saveIsNoEdit() {
        PopularMatchings x = fresh();
        for (int time = 0; time < 6; time++) {
            Check.due("save()", x.save(), 0);
        }
        Check.due("saved alone: undo()", x.undo(), -104);
        int[] held = {2, 1, 2, 0, 1};
        for (int post : held) {
            x.assign(0, post);
            Check.due("save()", x.save(), 1);
        }
        for (int left = 4; left >= 0; left--) {
            Check.due("saved between: undo()", x.undo(), left);
            Check.due("saved between: postOf(0)", x.postOf(0), left == 0 ? -1 : held[left - 1]);
        }
    }

    /** The other methods are not among the edits. */
    private static void questionsAreNoEdits() {
        PopularMatchings x = fresh();
        x.assign(0, 0);
        int[] answers = {x.preferenceAt(0, 0), x.firstPost(0), x.secondPost(0), x.postOf(0), x.size(), x.isParetoOptimal(),
            x.marginOverSaved(), x.unpopularityMargin(), x.challengerPost(0), x.popularCount(), x.greatestPopularSize()};
        int[] want = {0, 0, -1, 0, 1, 0, 1, 2, 0, 1, 3};
        for (int question = 0; question < want.length; question++) {
            Check.due("question " + question, answers[question], want[question]);
        }
        Check.due("one edit: undo()", x.undo(), 0);
    }

    /** "Undoes the latest edit that has not been undone": an undone edit does not come again. */
    private static void undoIsNotUndone() {
        PopularMatchings x = fresh();
        x.assign(0, 0);
        x.assign(0, 1);
        x.undo();
        x.assign(0, 2);
        x.undo();
        Check.due("postOf(0)", x.postOf(0), 0);
        Check.due("undo()", x.undo(), 0);
        Check.due("postOf(0)", x.postOf(0), -1);
        Check.due("undo()", x.undo(), -104);
    }

    /** "undoing restores the present and the saved matching": the saved one too as it was before each edit. */
    private static void savedBeforeEachEdit() {
        for (int undos = 0; undos <= 5; undos++) {
            PopularMatchings x = fresh();
            int[] held = {2, 1, 2, 0, 1};
            for (int post : held) {
                x.assign(0, post);
                x.save();
            }
            for (int undo = 0; undo < undos; undo++) {
                x.undo();
            }
            int want = undos == 5 ? -1 : held[4 - undos];
            Check.due(undos + " undone: postOf(0)", x.postOf(0), want);
            Check.due(undos + " undone: marginOverSaved()", x.marginOverSaved(), 0);
            x.swapSaved();
            Check.due(undos + " undone, saved: postOf(0)", x.postOf(0), want);
        }
    }

    /** The same when the oldest edits have been dropped. */
    private static void savedBeforeEachOfManyEdits() {
        int[] held = {2, 1, 2, 0, 1, 0, 2, 1, 0, 1, 2};
        for (int undos = 0; undos <= 5; undos++) {
            PopularMatchings x = fresh();
            for (int post : held) {
                x.assign(0, post);
                x.save();
            }
            for (int undo = 1; undo <= undos; undo++) {
                Check.due("undo()", x.undo(), 5 - undo);
            }
            Check.due(undos + " of eleven undone: postOf(0)", x.postOf(0), held[10 - undos]);
            x.swapSaved();
            Check.due(undos + " of eleven undone, saved: postOf(0)", x.postOf(0), held[10 - undos]);
        }
    }

    /** Promise 14: "Exchanges the present matching and the saved matching", and undo exchanges them back. */
    private static void swapOfUnlikeMatchings() {
        PopularMatchings x = fresh();
        x.adoptSerial(0);
        Check.due("save()", x.save(), 3);
        x.assign(1, -1);
        x.assign(0, 1);
        for (int time = 0; time < 3; time++) {
            Check.due("swapSaved()", x.swapSaved(), 3);
            Check.posts("swapSaved()", x, 0, 1, 2, -1);
            Check.due("swapSaved()", x.swapSaved(), 2);
            Check.posts("swapSaved()", x, 1, -1, 2, -1);
        }
        Check.due("undo()", x.undo(), 4);
        Check.posts("undo()", x, 0, 1, 2, -1);
        Check.due("the saved one: marginOverSaved()", x.marginOverSaved(), 2);
        Check.due("undo()", x.undo(), 3);
        Check.posts("undo()", x, 1, -1, 2, -1);
        Check.due("the saved one: marginOverSaved()", x.marginOverSaved(), -2);
    }
}
