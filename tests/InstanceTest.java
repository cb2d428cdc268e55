/** Promises 1 to 8: a new object, and the instance. */
final class InstanceTest {
    private static final int BAD = -101;

    public static void main(String[] args) {
        newObject();
        reset();
        resetRefused();
        setCapacity();
        appendPreference();
        clearPreferences();
        preferenceAt();
        firstPost();
        secondPost();
        Check.end("InstanceTest");
    }

    private static void newObject() {
        PopularMatchings x = new PopularMatchings();
        for (int applicant = 0; applicant < 4; applicant++) {
            Check.due("new: firstPost(" + applicant + ")", x.firstPost(applicant), -1);
            Check.due("new: secondPost(" + applicant + ")", x.secondPost(applicant), -1);
            Check.due("new: preferenceAt(" + applicant + ", 0)", x.preferenceAt(applicant, 0), -104);
        }
        Check.posts("new", x, -1, -1, -1, -1, BAD);
        Check.due("new: size()", x.size(), 0);
        Check.due("new: marginOverSaved()", x.marginOverSaved(), 0);
        Check.due("new: undo()", x.undo(), -104);
        Check.due("new: appendPreference(4, 0)", x.appendPreference(4, 0), BAD);
        Check.due("new: appendPreference(0, 3)", x.appendPreference(0, 3), BAD);
        Check.due("new: swapSaved()", x.swapSaved(), 0);
        Check.posts("new, swapped", x, -1, -1, -1, -1, BAD);
        for (int post = 0; post < 3; post++) {
            Check.due("new: setCapacity(" + post + ", 2)", x.setCapacity(post, 2), 1);
        }
        Check.due("new: setCapacity(3, 2)", x.setCapacity(3, 2), BAD);
        Check.due("new: reset(1, 1)", x.reset(1, 1), 4);
        PopularMatchings other = new PopularMatchings();
        Check.due("another new: setCapacity(0, 1)", other.setCapacity(0, 1), 1);
        Check.due("another new: reset(4, 3)", other.reset(4, 3), 4);
    }

    private static void reset() {
        PopularMatchings x = Check.listing(new PopularMatchings(), "012", "10", "2", "0");
        Check.due("setCapacity(1, 2)", x.setCapacity(1, 2), 1);
        Check.due("adoptSerial(0)", x.adoptSerial(0), 3);
        Check.due("save()", x.save(), 3);
        Check.due("reset(4, 3)", x.reset(4, 3), 4);
        Check.posts("reset", x, -1, -1, -1, -1);
        Check.due("reset: undo()", x.undo(), -104);
        Check.due("reset: swapSaved()", x.swapSaved(), 0);
        for (int applicant = 0; applicant < 4; applicant++) {
            Check.due("reset: firstPost(" + applicant + ")", x.firstPost(applicant), -1);
            Check.due("reset: clearPreferences(" + applicant + ")", x.clearPreferences(applicant), 0);
        }
        Check.due("reset: setCapacity(1, 1)", x.setCapacity(1, 1), 1);
        for (int applicants = 1; applicants <= 6; applicants++) {
            for (int posts = 1; posts <= 5; posts++) {
                int before = posts == 1 ? Math.max(applicants - 1, 1) : applicants;
                before = applicants == 1 && posts == 1 ? 4 : before;
                Check.due("reset(" + applicants + ", " + posts + ")", x.reset(applicants, posts), before);
                Check.due("postOf(N)", x.postOf(applicants), BAD);
                Check.due("postOf(N - 1)", x.postOf(applicants - 1), -1);
                Check.due("setCapacity(P, 1)", x.setCapacity(posts, 1), BAD);
                Check.due("setCapacity(P - 1, 2)", x.setCapacity(posts - 1, 2), 1);
            }
        }
    }

    private static void resetRefused() {
        PopularMatchings x = Check.listing(new PopularMatchings(), "0", "1");
        Check.due("assign(0, 0)", x.assign(0, 0), -1);
        int[][] wrong = {{0, 1}, {7, 1}, {1, 0}, {1, 6}, {-1, 3}, {3, -1}, {0, 0}, {7, 6},
            {Integer.MIN_VALUE, 3}, {Integer.MAX_VALUE, 3}, {3, Integer.MIN_VALUE}, {3, Integer.MAX_VALUE}};
        for (int[] w : wrong) {
            Check.due("reset(" + w[0] + ", " + w[1] + ")", x.reset(w[0], w[1]), BAD);
        }
        Check.posts("reset refused", x, 0, -1, -1, -1, BAD);
        Check.due("reset refused: firstPost(1)", x.firstPost(1), 1);
        Check.due("reset refused: undo()", x.undo(), 0);
        Check.due("reset refused: reset(6, 5)", x.reset(6, 5), 4);
        Check.due("reset(1, 1)", x.reset(1, 1), 6);
    }

    private static void setCapacity() {
        PopularMatchings x = Check.listing(new PopularMatchings(), "0", "0", "0");
        Check.due("assign(0, 0)", x.assign(0, 0), -1);
        Check.due("save()", x.save(), 1);
        int[][] wrong = {{-1, 1}, {3, 1}, {0, 0}, {0, 3}, {0, -1}, {3, 3}, {4, 1}, {Integer.MIN_VALUE, 1},
            {Integer.MAX_VALUE, 1}, {0, Integer.MIN_VALUE}, {0, Integer.MAX_VALUE}};
        for (int[] w : wrong) {
            Check.due("setCapacity(" + w[0] + ", " + w[1] + ")", x.setCapacity(w[0], w[1]), BAD);
        }
        Check.posts("setCapacity refused", x, 0, -1, -1, -1);
        Check.due("setCapacity(0, 2)", x.setCapacity(0, 2), 1);
        Check.posts("setCapacity", x, -1, -1, -1, -1);
        Check.due("setCapacity: undo()", x.undo(), -104);
        Check.due("setCapacity: swapSaved()", x.swapSaved(), 0);
        Check.due("setCapacity: firstPost(2)", x.firstPost(2), 0);
        Check.due("assign(0, 0)", x.assign(0, 0), -1);
        Check.due("assign(1, 0)", x.assign(1, 0), -1);
        Check.due("assign(2, 0)", x.assign(2, 0), -103);
        Check.due("save()", x.save(), 2);
        Check.due("the same capacity again: setCapacity(0, 2)", x.setCapacity(0, 2), 2);
        Check.posts("the same capacity again", x, -1, -1, -1, -1);
        Check.due("the same capacity again: undo()", x.undo(), -104);
        Check.due("the same capacity again: swapSaved()", x.swapSaved(), 0);
        Check.due("setCapacity(0, 1)", x.setCapacity(0, 1), 2);
        Check.due("setCapacity(1, 2)", x.setCapacity(1, 2), 1);
        Check.due("setCapacity(2, 1)", x.setCapacity(2, 1), 1);
        Check.due("assign(0, 0)", x.assign(0, 0), -1);
        Check.due("assign(1, 0)", x.assign(1, 0), -103);
    }

    private static void appendPreference() {
        PopularMatchings x = Check.withReset(6, 5, "43210", "", "", "", "", "01234");
        Check.due("appendPreference(0, 4)", x.appendPreference(0, 4), -102);
        Check.due("appendPreference(0, 0)", x.appendPreference(0, 0), -102);
        Check.due("assign(0, 2)", x.assign(0, 2), -1);
        Check.due("save()", x.save(), 1);
        int[][] wrong = {{-1, 0}, {6, 0}, {0, -1}, {0, 5}, {6, 5}, {Integer.MIN_VALUE, 0}, {Integer.MAX_VALUE, 0},
            {0, Integer.MIN_VALUE}, {0, Integer.MAX_VALUE}};
        for (int[] w : wrong) {
            Check.due("appendPreference(" + w[0] + ", " + w[1] + ")", x.appendPreference(w[0], w[1]), BAD);
        }
        Check.due("appendPreference(5, 2)", x.appendPreference(5, 2), -102);
        Check.posts("appendPreference refused", x, 2, -1, -1, -1, -1, -1);
        Check.due("appendPreference(3, 3)", x.appendPreference(3, 3), 1);
        Check.posts("appendPreference", x, -1, -1, -1, -1, -1, -1);
        Check.due("appendPreference: undo()", x.undo(), -104);
        Check.due("appendPreference: swapSaved()", x.swapSaved(), 0);
        for (int index = 0; index < 5; index++) {
            Check.due("preferenceAt(0, " + index + ")", x.preferenceAt(0, index), 4 - index);
            Check.due("preferenceAt(5, " + index + ")", x.preferenceAt(5, index), index);
        }
        Check.due("preferenceAt(3, 0)", x.preferenceAt(3, 0), 3);
        Check.due("preferenceAt(4, 0)", x.preferenceAt(4, 0), -104);
    }

    private static void clearPreferences() {
        PopularMatchings x = Check.listing(new PopularMatchings(), "012", "10", "", "2");
        Check.due("assign(0, 1)", x.assign(0, 1), -1);
        Check.due("assign(3, 2)", x.assign(3, 2), -1);
        Check.due("save()", x.save(), 2);
        for (int applicant : new int[] {-1, 4, 5, 6, Integer.MIN_VALUE, Integer.MAX_VALUE}) {
            Check.due("clearPreferences(" + applicant + ")", x.clearPreferences(applicant), BAD);
        }
        Check.posts("clearPreferences refused", x, 1, -1, -1, 2);
        Check.due("clearPreferences(1)", x.clearPreferences(1), 2);
        Check.posts("clearPreferences", x, -1, -1, -1, -1);
        Check.due("clearPreferences: undo()", x.undo(), -104);
        Check.due("clearPreferences: swapSaved()", x.swapSaved(), 0);
        Check.due("preferenceAt(1, 0)", x.preferenceAt(1, 0), -104);
        Check.due("preferenceAt(0, 0)", x.preferenceAt(0, 0), 0);
        Check.due("preferenceAt(3, 0)", x.preferenceAt(3, 0), 2);
        Check.due("assign(3, 2)", x.assign(3, 2), -1);
        Check.due("an empty list: clearPreferences(1)", x.clearPreferences(1), 0);
        Check.due("an empty list: postOf(3)", x.postOf(3), -1);
        Check.due("an empty list: undo()", x.undo(), -104);
        Check.due("clearPreferences(0)", x.clearPreferences(0), 3);
        Check.due("appendPreference(0, 1)", x.appendPreference(0, 1), 1);
        Check.due("preferenceAt(0, 0)", x.preferenceAt(0, 0), 1);
        Check.due("preferenceAt(0, 1)", x.preferenceAt(0, 1), -104);
    }

    private static void preferenceAt() {
        PopularMatchings x = Check.listing(new PopularMatchings(), "20", "1");
        Check.due("preferenceAt(0, 0)", x.preferenceAt(0, 0), 2);
        Check.due("preferenceAt(0, 1)", x.preferenceAt(0, 1), 0);
        Check.due("preferenceAt(0, 2)", x.preferenceAt(0, 2), -104);
        Check.due("preferenceAt(0, 5)", x.preferenceAt(0, 5), -104);
        Check.due("preferenceAt(0, MAX)", x.preferenceAt(0, Integer.MAX_VALUE), -104);
        Check.due("preferenceAt(0, -1)", x.preferenceAt(0, -1), BAD);
        Check.due("preferenceAt(0, MIN)", x.preferenceAt(0, Integer.MIN_VALUE), BAD);
        Check.due("preferenceAt(3, -1)", x.preferenceAt(3, -1), BAD);
        Check.due("preferenceAt(1, 0)", x.preferenceAt(1, 0), 1);
        Check.due("preferenceAt(1, 1)", x.preferenceAt(1, 1), -104);
        for (int applicant : new int[] {-1, 4, 6, Integer.MIN_VALUE, Integer.MAX_VALUE}) {
            Check.due("preferenceAt(" + applicant + ", 0)", x.preferenceAt(applicant, 0), BAD);
            Check.due("preferenceAt(" + applicant + ", 9)", x.preferenceAt(applicant, 9), BAD);
        }
    }

    private static void firstPost() {
        PopularMatchings x = Check.listing(new PopularMatchings(), "20", "1", "", "102");
        int[] want = {2, 1, -1, 1};
        for (int applicant = 0; applicant < 4; applicant++) {
            Check.due("firstPost(" + applicant + ")", x.firstPost(applicant), want[applicant]);
        }
        for (int applicant : new int[] {-1, 4, 6, Integer.MIN_VALUE, Integer.MAX_VALUE}) {
            Check.due("firstPost(" + applicant + ")", x.firstPost(applicant), BAD);
        }
        x.clearPreferences(3);
        Check.due("firstPost(3)", x.firstPost(3), -1);
    }

    private static void secondPost() {
        PopularMatchings x = Check.withReset(6, 5, "0123", "02", "1034", "13", "", "4");
        int[] want = {2, 2, 3, 3, -1, -1};
        for (int applicant = 0; applicant < 6; applicant++) {
            Check.due("secondPost(" + applicant + ")", x.secondPost(applicant), want[applicant]);
        }
        x.setCapacity(0, 2);
        x.setCapacity(1, 2);
        x.setCapacity(4, 2);
        x.clearPreferences(3);
        int[] wantThen = {1, 2, 3, -1, -1, -1};
        for (int applicant = 0; applicant < 6; applicant++) {
            Check.due("then: secondPost(" + applicant + ")", x.secondPost(applicant), wantThen[applicant]);
        }
        for (int applicant : new int[] {-1, 6, 7, Integer.MIN_VALUE, Integer.MAX_VALUE}) {
            Check.due("secondPost(" + applicant + ")", x.secondPost(applicant), BAD);
        }
        PopularMatchings own = Check.withReset(2, 2, "01", "1");
        own.setCapacity(0, 2);
        Check.due("its own first post has room: secondPost(0)", own.secondPost(0), -1);
        own.setCapacity(1, 2);
        Check.due("the other's first post has room: secondPost(0)", own.secondPost(0), 1);
    }
}
