/**
 * What clears both matchings and the edits, and what does not ("Present and saved matching",
 * "Edits and errors", promises 2 to 5). The sentence that a test rests on stands above it.
 */
final class ClearingTest {
    /** A change of the instance of workbench(), and the answer that is due. */
    private record Change(String name, Twins.Call call, int want) {
    }

    private static final Change[] CHANGES = {
        new Change("reset(4, 3), the same numbers", x -> x.reset(4, 3), 4),
        new Change("reset(6, 5)", x -> x.reset(6, 5), 4),
        new Change("reset(4, 5)", x -> x.reset(4, 5), 4),
        new Change("reset(6, 3)", x -> x.reset(6, 3), 4),
        new Change("reset(4, 1)", x -> x.reset(4, 1), 4),
        new Change("reset(1, 1)", x -> x.reset(1, 1), 4),
        new Change("setCapacity(0, 2), of a post that is held", x -> x.setCapacity(0, 2), 1),
        new Change("setCapacity(2, 2), of a post that nobody lists", x -> x.setCapacity(2, 2), 1),
        new Change("setCapacity(1, 1), less", x -> x.setCapacity(1, 1), 2),
        new Change("setCapacity(0, 1), the same", x -> x.setCapacity(0, 1), 1),
        new Change("setCapacity(1, 2), the same", x -> x.setCapacity(1, 2), 2),
        new Change("appendPreference(0, 2), of one who has a post", x -> x.appendPreference(0, 2), 3),
        new Change("appendPreference(2, 2), of one who has none", x -> x.appendPreference(2, 2), 2),
        new Change("appendPreference(3, 0), to an empty list", x -> x.appendPreference(3, 0), 1),
        new Change("clearPreferences(0), of one who has a post", x -> x.clearPreferences(0), 2),
        new Change("clearPreferences(2), of one who has none", x -> x.clearPreferences(2), 1),
        new Change("clearPreferences(3), of an empty list", x -> x.clearPreferences(3), 0),
    };

    public static void main(String[] args) {
        initiallyBothGiveNone();
        for (Change change : CHANGES) {
            presentIsCleared(change);
            savedIsCleared(change);
            nothingCanBeUndone(change);
            editsCountFromThereOn(change);
        }
        whatClearsNothing();
        resetStartsAnew();
        resetForgetsWhatLayBeyond();
        resetForgetsTheLargerMatchings();
        capacityChangeKeepsTheRest();
        listChangeKeepsTheRest();
        Check.end("ClearingTest");
    }

    /** Present {0, 1, NONE, NONE}, saved {1, 0, NONE, NONE}, three edits; post 1 has two places, 2 is in no list. */
    private static PopularMatchings workbench() {
        PopularMatchings x = new PopularMatchings();
        x.setCapacity(1, 2);
        Check.listing(x, "01", "10", "1");
        x.assign(0, 1);
        x.assign(1, 0);
        x.save();
        x.adoptSerial(0);
        x.assign(2, -1);
        Check.posts("workbench", x, 0, 1, -1, -1, -101);
        return x;
    }

    /** Present and saved matching: "Initially each of them gives NONE to all applicants." */
    private static void initiallyBothGiveNone() {
        PopularMatchings x = new PopularMatchings();
        Check.posts("the present one", x, -1, -1, -1, -1, -101);
        Check.due("the saved one: swapSaved()", x.swapSaved(), 0);
        Check.posts("the saved one", x, -1, -1, -1, -1, -101);
        PopularMatchings y = Check.listing(new PopularMatchings(), "0", "1");
        y.adoptSerial(0);
        Check.due("nothing saved: swapSaved()", y.swapSaved(), 0);
        Check.posts("nothing saved", y, -1, -1, -1, -1);
    }

    /** "When the lists, the capacities or the numbers N and P change, both matchings give NONE to all applicants again." */
    private static void presentIsCleared(Change change) {
        PopularMatchings x = workbench();
        Check.due(change.name, change.call.on(x), change.want);
        for (int a = 0; a < 6; a++) {
            Check.due(change.name + ": postOf(" + a + ")", Math.max(x.postOf(a), -1), -1);
        }
        Check.due(change.name + ": size()", x.size(), 0);
    }

    /** The same sentence, of the saved matching. */
    private static void savedIsCleared(Change change) {
        PopularMatchings x = workbench();
        change.call.on(x);
        Check.due(change.name + ": marginOverSaved()", x.marginOverSaved(), 0);
        Check.due(change.name + ": swapSaved()", x.swapSaved(), 0);
        for (int a = 0; a < 6; a++) {
            Check.due(change.name + ": saved post of " + a, Math.max(x.postOf(a), -1), -1);
        }
    }

    /** "When both matchings are cleared because the instance has changed, nothing can be undone any more." */
    private static void nothingCanBeUndone(Change change) {
        for (int more = 0; more < 4; more++) {
            PopularMatchings x = workbench();
            for (int edit = 0; edit < more; edit++) {
                x.swapSaved();
            }
            change.call.on(x);
            Check.due(change.name + ": undo()", x.undo(), -104);
            Check.due(change.name + ": undo()", x.undo(), -104);
            Check.due(change.name + ": size()", x.size(), 0);
        }
    }

    /** The same sentence: the edits made since then can be undone, and they alone. */
    private static void editsCountFromThereOn(Change change) {
        PopularMatchings x = workbench();
        change.call.on(x);
        for (int edit = 0; edit < 3; edit++) {
            x.adoptChallenger();
        }
        for (int left = 2; left >= 0; left--) {
            Check.due(change.name + ", three edits: undo()", x.undo(), left);
        }
        Check.due(change.name + ", undone: size()", x.size(), 0);
        Check.due(change.name + ", undone: undo()", x.undo(), -104);
    }

    /** Nothing else clears them: neither questions and edits nor save, undo and refused calls. */
    private static void whatClearsNothing() {
        Twins.Call[] calls = {x -> x.preferenceAt(0, 0), x -> x.firstPost(0), x -> x.secondPost(0), x -> x.size(),
            x -> x.isParetoOptimal(), x -> x.marginOverSaved(), x -> x.unpopularityMargin(), x -> x.challengerPost(0),
            x -> x.popularCount(), x -> x.greatestPopularSize(), x -> x.reset(7, 3), x -> x.reset(4, 6),
            x -> x.setCapacity(0, 3), x -> x.setCapacity(3, 1), x -> x.appendPreference(0, 0),
            x -> x.appendPreference(0, 3), x -> x.clearPreferences(4)};
        for (int call = 0; call < calls.length; call++) {
            PopularMatchings x = workbench();
            calls[call].on(x);
            Check.posts("call " + call, x, 0, 1, -1, -1);
            Check.due("call " + call + ": undo()", x.undo(), 3);
            Check.posts("call " + call + ", undone", x, 0, 1, 1, -1);
            Check.due("call " + call + ": swapSaved()", x.swapSaved(), 2);
            Check.posts("call " + call + ", saved", x, 1, 0, -1, -1);
        }
        PopularMatchings x = workbench();
        Check.due("save()", x.save(), 2);
        Check.posts("save()", x, 0, 1, -1, -1);
        Check.due("save() keeps the edits: undo()", x.undo(), 3);
    }

    /** Promise 2: "Starts anew ..; all capacities are 1 and all lists are empty." */
    private static void resetStartsAnew() {
        for (int n = 1; n <= 6; n++) {
            for (int p = 1; p <= 5; p++) {
                PopularMatchings x = Check.withReset(6, 5, "01234", "12340", "23401", "34012", "40123", "01234");
                for (int post = 0; post < 5; post++) {
                    x.setCapacity(post, 2);
                }
                String to = "reset(" + n + ", " + p + ")";
                Check.due(to, x.reset(n, p), 6);
                for (int a = 0; a < n; a++) {
                    Check.due(to + ": preferenceAt(" + a + ", 0)", x.preferenceAt(a, 0), -104);
                    Check.due(to + ": clearPreferences(" + a + ")", x.clearPreferences(a), 0);
                }
                for (int post = 0; post < p; post++) {
                    Check.due(to + ": setCapacity(" + post + ", 1)", x.setCapacity(post, 1), 1);
                }
            }
        }
    }

    /** The same: what lay beyond smaller numbers is not there when they grow again. */
    private static void resetForgetsWhatLayBeyond() {
        PopularMatchings x = Check.withReset(6, 5, "01234", "4", "43", "34", "4", "4");
        x.setCapacity(4, 2);
        x.adoptSerial(0);
        x.save();
        Check.due("reset(1, 1)", x.reset(1, 1), 6);
        Check.due("one applicant: size()", x.size(), 0);
        Check.due("one applicant: popularCount()", x.popularCount(), 1);
        Check.due("one applicant: unpopularityMargin()", x.unpopularityMargin(), 0);
        Check.due("one applicant: appendPreference(0, 0)", x.appendPreference(0, 0), 1);
        Check.due("one applicant: assign(0, 0)", x.assign(0, 0), -1);
        Check.due("reset(6, 5)", x.reset(6, 5), 1);
        Check.posts("grown again", x, -1, -1, -1, -1, -1, -1);
        for (int a = 0; a < 6; a++) {
            Check.due("grown again: firstPost(" + a + ")", x.firstPost(a), -1);
        }
        for (int post = 0; post < 5; post++) {
            Check.due("grown again: setCapacity(" + post + ", 1)", x.setCapacity(post, 1), 1);
        }
    }

    /** The same, of the matchings that are made with the smaller numbers: nobody beyond N has a post. */
    private static void resetForgetsTheLargerMatchings() {
        Twins.Call[] makers = {x -> x.adoptChallenger(), x -> x.adoptPopular(0), x -> x.adoptSerial(0), x -> x.swapSaved(),
            x -> x.assign(0, 0)};
        for (int before = 0; before < makers.length; before++) {
            for (int after = 0; after < makers.length; after++) {
                PopularMatchings x = Check.withReset(6, 5, "0", "0", "1", "2", "3", "4");
                x.setCapacity(0, 2);
                x.adoptSerial(0);
                x.save();
                makers[before].on(x);
                x.reset(2, 2);
                Check.listing(x, "0");
                makers[after].on(x);
                String when = "greater " + before + ", smaller " + after;
                int want = after == 3 ? 0 : 1;
                Check.due(when + ": size()", x.size(), want);
                Check.due(when + ": save()", x.save(), want);
                Check.due(when + ": swapSaved()", x.swapSaved(), want);
                Check.due(when + ": greatestPopularSize()", x.greatestPopularSize(), 1);
                Check.due(when + ": adoptPopular(0)", x.adoptPopular(0), 1);
                Check.due(when + ": adoptSerial(1)", x.adoptSerial(1), 1);
            }
        }
    }

    /** Promise 3: "Sets the capacity of a post": the lists, the numbers and the other capacities stay. */
    private static void capacityChangeKeepsTheRest() {
        PopularMatchings x = workbench();
        x.setCapacity(0, 2);
        Check.due("preferenceAt(0, 0)", x.preferenceAt(0, 0), 0);
        Check.due("preferenceAt(0, 1)", x.preferenceAt(0, 1), 1);
        Check.due("preferenceAt(1, 1)", x.preferenceAt(1, 1), 0);
        Check.due("preferenceAt(2, 0)", x.preferenceAt(2, 0), 1);
        Check.due("firstPost(3)", x.firstPost(3), -1);
        Check.due("setCapacity(1, 2)", x.setCapacity(1, 2), 2);
        Check.due("setCapacity(2, 1)", x.setCapacity(2, 1), 1);
        Check.due("reset(1, 1)", x.reset(1, 1), 4);
    }

    /** Promises 4 and 5: the capacities and the numbers stay. */
    private static void listChangeKeepsTheRest() {
        for (int way = 0; way < 2; way++) {
            PopularMatchings x = workbench();
            Check.due("way " + way, way == 0 ? x.appendPreference(0, 2) : x.clearPreferences(1), way == 0 ? 3 : 2);
            Check.due("setCapacity(0, 1)", x.setCapacity(0, 1), 1);
            Check.due("setCapacity(1, 1)", x.setCapacity(1, 1), 2);
            Check.due("setCapacity(2, 1)", x.setCapacity(2, 1), 1);
            Check.due("setCapacity(3, 1)", x.setCapacity(3, 1), -101);
            Check.due("reset(1, 1)", x.reset(1, 1), 4);
        }
    }
}
