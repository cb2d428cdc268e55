/** Promises 13 to 18: the saved matching, votes and challengers. */
final class VotesTest {
    private static final int BAD = -101;

    public static void main(String[] args) {
        save();
        swapSaved();
        marginOverSaved();
        unpopularityMargin();
        challengerPost();
        leastChallenger();
        adoptChallenger();
        Check.end("VotesTest");
    }

    private static void save() {
        PopularMatchings x = Check.listing(new PopularMatchings(), "01", "1", "2");
        Check.due("nothing: save()", x.save(), 0);
        x.assign(0, 1);
        x.assign(2, 2);
        Check.due("save()", x.save(), 2);
        Check.posts("save", x, 1, -1, 2, -1);
        x.assign(0, 0);
        Check.due("save is no edit: undo()", x.undo(), 2);
        Check.due("saved apart: marginOverSaved()", x.marginOverSaved(), 0);
        x.assign(0, 0);
        Check.due("saved apart: marginOverSaved()", x.marginOverSaved(), 1);
        Check.due("save()", x.save(), 2);
        Check.due("save()", x.marginOverSaved(), 0);
    }

    private static void swapSaved() {
        PopularMatchings x = Check.listing(new PopularMatchings(), "01", "1", "2");
        x.assign(0, 1);
        x.assign(2, 2);
        x.save();
        x.assign(0, -1);
        Check.due("swapSaved()", x.swapSaved(), 2);
        Check.posts("swapSaved", x, 1, -1, 2, -1);
        Check.due("swapSaved()", x.swapSaved(), 1);
        Check.posts("swapSaved", x, -1, -1, 2, -1);
        x.assign(1, 1);
        Check.due("swapSaved()", x.swapSaved(), 2);
        Check.posts("apart after the exchange", x, 1, -1, 2, -1);
        Check.due("an edit: undo()", x.undo(), 4);
        Check.posts("undo", x, -1, 1, 2, -1);
        Check.due("the saved one too: marginOverSaved()", x.marginOverSaved(), 0);
        Check.due("swapSaved()", x.swapSaved(), 2);
        Check.posts("the saved one too", x, 1, -1, 2, -1);
    }

    private static void marginOverSaved() {
        PopularMatchings x = Check.withReset(6, 5, "01", "01", "23", "23", "4", "4");
        Check.due("marginOverSaved()", x.marginOverSaved(), 0);
        x.adoptSerial(0);
        Check.due("over nothing: marginOverSaved()", x.marginOverSaved(), 5);
        x.swapSaved();
        Check.due("nothing over it: marginOverSaved()", x.marginOverSaved(), -5);
        x.swapSaved();
        x.save();
        x.adoptSerial(1);
        Check.posts("adoptSerial(1)", x, 1, 0, 2, 3, 4, -1);
        Check.due("one for, one against: marginOverSaved()", x.marginOverSaved(), 0);
        x.assign(2, -1);
        Check.due("a post over NONE: marginOverSaved()", x.marginOverSaved(), -1);
        x.assign(3, 2);
        Check.due("an earlier post: marginOverSaved()", x.marginOverSaved(), 0);
        x.assign(4, -1);
        x.assign(0, -1);
        Check.due("marginOverSaved()", x.marginOverSaved(), -1);
    }

    private static void unpopularityMargin() {
        PopularMatchings x = Check.withReset(6, 5, "0", "1", "2", "3", "4", "01234");
        Check.due("nothing: unpopularityMargin()", x.unpopularityMargin(), 5);
        x.assign(5, 0);
        Check.due("unpopularityMargin()", x.unpopularityMargin(), 4);
        x.adoptSerial(0);
        Check.due("unpopularityMargin()", x.unpopularityMargin(), 0);
        x.assign(3, -1);
        x.assign(5, 3);
        Check.due("two gain, one loses: unpopularityMargin()", x.unpopularityMargin(), 1);
        x.assign(2, -1);
        x.assign(5, 2);
        Check.due("three gain, one loses: unpopularityMargin()", x.unpopularityMargin(), 2);
        for (int post = 0; post < 5; post++) {
            x.setCapacity(post, 2);
        }
        Check.due("nothing, room for all: unpopularityMargin()", x.unpopularityMargin(), 6);
        Check.due("no edit: undo()", x.undo(), -104);
        x.reset(2, 2);
        Check.due("no lists: unpopularityMargin()", x.unpopularityMargin(), 0);
    }

    private static void challengerPost() {
        PopularMatchings x = Check.withReset(3, 3, "012", "012", "012");
        x.adoptSerial(0);
        int[] want = {2, 0, 1};
        for (int applicant = 0; applicant < 3; applicant++) {
            Check.due("challengerPost(" + applicant + ")", x.challengerPost(applicant), want[applicant]);
        }
        for (int applicant : new int[] {-1, 3, 4, 5, 6, Integer.MIN_VALUE, Integer.MAX_VALUE}) {
            Check.due("challengerPost(" + applicant + ")", x.challengerPost(applicant), BAD);
        }
        Check.posts("nothing changed", x, 0, 1, 2);
        Check.due("no edit: undo()", x.undo(), 0);
    }

    private static void leastChallenger() {
        PopularMatchings x = Check.withReset(2, 3, "210", "");
        Check.due("each post is as good: challengerPost(0)", x.challengerPost(0), 0);
        x.assign(0, 0);
        Check.due("the lower of the better two: challengerPost(0)", x.challengerPost(0), 1);
        x.assign(0, 2);
        Check.due("itself: challengerPost(0)", x.challengerPost(0), 2);
        Check.due("no list: challengerPost(1)", x.challengerPost(1), -1);

        PopularMatchings y = Check.withReset(2, 1, "0", "0");
        Check.due("a post is lower than NONE: challengerPost(0)", y.challengerPost(0), 0);
        Check.due("a post is lower than NONE: challengerPost(1)", y.challengerPost(1), -1);
        y.assign(1, 0);
        Check.due("the margin 0 too: challengerPost(0)", y.challengerPost(0), 0);
        Check.due("the margin 0 too: challengerPost(1)", y.challengerPost(1), -1);
        Check.due("the margin 0 too: unpopularityMargin()", y.unpopularityMargin(), 0);

        PopularMatchings last = Check.withReset(6, 5, "4", "", "", "", "", "43");
        Check.due("the highest post and applicant: challengerPost(0)", last.challengerPost(0), 4);
        Check.due("the highest post and applicant: challengerPost(5)", last.challengerPost(5), 3);
    }

    private static void adoptChallenger() {
        PopularMatchings x = Check.withReset(3, 3, "012", "012", "012");
        Check.due("adoptChallenger()", x.adoptChallenger(), 3);
        Check.posts("adoptChallenger", x, 0, 1, 2);
        x.save();
        Check.due("adoptChallenger()", x.adoptChallenger(), 1);
        Check.posts("adoptChallenger", x, 2, 0, 1);
        Check.due("adoptChallenger: marginOverSaved()", x.marginOverSaved(), 1);
        Check.due("adoptChallenger()", x.adoptChallenger(), 1);
        Check.posts("adoptChallenger", x, 1, 2, 0);
        Check.due("an edit: undo()", x.undo(), 2);
        Check.posts("undo", x, 2, 0, 1);
        x.adoptSerial(0);
        x.assign(2, -1);
        Check.due("of another matching: adoptChallenger()", x.adoptChallenger(), 1);
        Check.posts("of another matching", x, 0, 1, 2);
        PopularMatchings y = Check.withReset(2, 1, "0", "0");
        y.assign(1, 0);
        Check.due("popular: adoptChallenger()", y.adoptChallenger(), 0);
        Check.posts("popular: the least one with the margin 0", y, 0, -1);
        Check.due("popular: undo()", y.undo(), 1);
        y.reset(1, 1);
        Check.due("no lists: adoptChallenger()", y.adoptChallenger(), 0);
        Check.due("no lists, an edit all the same: undo()", y.undo(), 0);
    }
}
