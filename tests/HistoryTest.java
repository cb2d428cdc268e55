/** Promise 23: undo, and which calls are edits. */
final class HistoryTest {
    public static void main(String[] args) {
        nothingToUndo();
        oneEditAtATime();
        onlyTheLastFive();
        eachKindOfEdit();
        noEdits();
        savedIsRestored();
        savedIsKeptApart();
        clearedWithTheInstance();
        editsAfterUndo();
        Check.end("HistoryTest");
    }

    private static PopularMatchings fresh() {
        return Check.listing(new PopularMatchings(), "012", "10", "2");
    }

    private static void nothingToUndo() {
        PopularMatchings x = new PopularMatchings();
        Check.due("new: undo()", x.undo(), -104);
        Check.due("new: undo()", x.undo(), -104);
        Check.due("lists: undo()", fresh().undo(), -104);
    }

    private static void oneEditAtATime() {
        PopularMatchings x = fresh();
        x.assign(0, 0);
        x.assign(1, 1);
        x.assign(0, 2);
        Check.due("undo()", x.undo(), 2);
        Check.posts("undo", x, 0, 1, -1, -1);
        Check.due("undo()", x.undo(), 1);
        Check.posts("undo", x, 0, -1, -1, -1);
        Check.due("undo()", x.undo(), 0);
        Check.posts("undo", x, -1, -1, -1, -1);
        Check.due("undo()", x.undo(), -104);
        Check.posts("undo refused", x, -1, -1, -1, -1);
    }

    private static void onlyTheLastFive() {
        PopularMatchings x = fresh();
        int[] posts = {0, 1, 2, 0, 1, 2, -1, 1};
        for (int post : posts) {
            x.assign(0, post);
        }
        for (int left = 4; left >= 0; left--) {
            Check.due("undo()", x.undo(), left);
            Check.due("undo: postOf(0)", x.postOf(0), posts[2 + left]);
        }
        Check.due("a sixth time: undo()", x.undo(), -104);
        Check.due("a sixth time: postOf(0)", x.postOf(0), 2);
    }

    private static void eachKindOfEdit() {
        PopularMatchings x = fresh();
        x.assign(0, 2);
        x.save();
        x.adoptChallenger();
        x.adoptPopular(0);
        x.adoptSerial(1);
        x.swapSaved();
        Check.posts("swapSaved", x, 2, -1, -1, -1);
        Check.due("undo()", x.undo(), 4);
        Check.posts("undo swapSaved", x, 0, 1, 2, -1);
        Check.due("undo()", x.undo(), 3);
        Check.due("undo()", x.undo(), 2);
        Check.due("undo()", x.undo(), 1);
        Check.posts("undo adoptChallenger", x, 2, -1, -1, -1);
        Check.due("undo()", x.undo(), 0);
        Check.posts("undo assign", x, -1, -1, -1, -1);
    }

    private static void noEdits() {
        PopularMatchings x = fresh();
        x.assign(0, 0);
        x.save();
        x.preferenceAt(0, 0);
        x.firstPost(0);
        x.secondPost(0);
        x.postOf(0);
        x.size();
        x.isParetoOptimal();
        x.marginOverSaved();
        x.unpopularityMargin();
        x.challengerPost(0);
        x.popularCount();
        x.greatestPopularSize();
        x.assign(0, 9);
        x.assign(2, 0);
        x.assign(1, 0);
        x.adoptSerial(9);
        x.adoptPopular(9);
        x.adoptPopular(-1);
        x.reset(0, 0);
        x.setCapacity(0, 0);
        x.appendPreference(0, 0);
        x.clearPreferences(9);
        Check.posts("no edits", x, 0, -1, -1, -1);
        Check.due("no edits: undo()", x.undo(), 0);
        Check.posts("no edits: undo", x, -1, -1, -1, -1);
    }

    private static void savedIsRestored() {
        PopularMatchings x = fresh();
        x.assign(0, 2);
        x.save();
        x.assign(0, 0);
        Check.due("save()", x.save(), 1);
        Check.due("undo()", x.undo(), 1);
        Check.posts("undo", x, 2, -1, -1, -1);
        Check.due("saved as before the edit: marginOverSaved()", x.marginOverSaved(), 0);
        Check.due("undo()", x.undo(), 0);
        Check.due("saved as before the edit: marginOverSaved()", x.marginOverSaved(), 0);
        Check.due("saved as before the edit: swapSaved()", x.swapSaved(), 0);
    }

    private static void savedIsKeptApart() {
        PopularMatchings x = fresh();
        x.assign(0, 2);
        x.save();
        x.assign(0, 1);
        x.assign(0, 0);
        Check.due("undo()", x.undo(), 2);
        Check.due("after assign: marginOverSaved()", x.marginOverSaved(), 1);
        x.adoptSerial(0);
        Check.due("undo()", x.undo(), 2);
        Check.due("after adoptSerial: marginOverSaved()", x.marginOverSaved(), 1);
        for (int edit = 0; edit < 7; edit++) {
            x.adoptSerial(edit % 2);
        }
        x.save();
        for (int left = 4; left >= 0; left--) {
            Check.due("undo()", x.undo(), left);
        }
        Check.due("after many edits: swapSaved()", x.swapSaved(), 1);
        Check.posts("after many edits", x, 2, -1, -1, -1);
    }

    private static void clearedWithTheInstance() {
        for (int way = 0; way < 4; way++) {
            PopularMatchings x = fresh();
            x.assign(0, 0);
            x.save();
            x.swapSaved();
            long answer = way == 0 ? x.reset(4, 3) : way == 1 ? x.setCapacity(2, 2)
                    : way == 2 ? x.appendPreference(1, 2) : x.clearPreferences(3);
            Check.due("way " + way, answer, way == 0 ? 4 : way == 1 ? 1 : way == 2 ? 3 : 0);
            Check.due("way " + way + ": undo()", x.undo(), -104);
            Check.posts("way " + way, x, -1, -1, -1, -1);
            Check.due("way " + way + ": swapSaved()", x.swapSaved(), 0);
            Check.due("way " + way + ": undo()", x.undo(), 0);
        }
    }

    private static void editsAfterUndo() {
        PopularMatchings x = fresh();
        x.assign(0, 0);
        x.assign(0, 1);
        x.undo();
        x.assign(0, 2);
        Check.due("undo()", x.undo(), 1);
        Check.posts("undo", x, 0, -1, -1, -1);
        Check.due("undo()", x.undo(), 0);
        Check.posts("undo", x, -1, -1, -1, -1);
    }
}
