/** The four examples of the document. */
final class ExamplesTest {
    public static void main(String[] args) {
        threeApplicantsWithTheSameTwoPosts();
        popularMatchingsOfTwoApplicants();
        refusedCallsAndClearedMatchings();
        aSavedMatchingAndACapacityOfTwo();
        Check.end("ExamplesTest");
    }

    private static void threeApplicantsWithTheSameTwoPosts() {
        PopularMatchings x = new PopularMatchings();
        Check.due("1: reset(3, 3)", x.reset(3, 3), 4);
        Check.due("1: appendPreference(0, 0)", x.appendPreference(0, 0), 1);
        Check.due("1: appendPreference(0, 1)", x.appendPreference(0, 1), 2);
        Check.due("1: appendPreference(1, 0)", x.appendPreference(1, 0), 1);
        Check.due("1: appendPreference(1, 1)", x.appendPreference(1, 1), 2);
        Check.due("1: appendPreference(2, 0)", x.appendPreference(2, 0), 1);
        Check.due("1: appendPreference(2, 1)", x.appendPreference(2, 1), 2);
        Check.due("1: adoptSerial(0)", x.adoptSerial(0), 2);
        Check.due("1: unpopularityMargin()", x.unpopularityMargin(), 1);
        Check.due("1: challengerPost(2)", x.challengerPost(2), 1);
        Check.due("1: popularCount()", x.popularCount(), 0);
        Check.due("1: secondPost(0)", x.secondPost(0), 1);
    }

    private static void popularMatchingsOfTwoApplicants() {
        PopularMatchings x = new PopularMatchings();
        Check.due("2: appendPreference(0, 0)", x.appendPreference(0, 0), 1);
        Check.due("2: appendPreference(0, 1)", x.appendPreference(0, 1), 2);
        Check.due("2: appendPreference(1, 0)", x.appendPreference(1, 0), 1);
        Check.due("2: appendPreference(1, 2)", x.appendPreference(1, 2), 2);
        Check.due("2: popularCount()", x.popularCount(), 2);
        Check.due("2: adoptPopular(0)", x.adoptPopular(0), 2);
        Check.due("2: postOf(0)", x.postOf(0), 0);
        Check.due("2: postOf(1)", x.postOf(1), 2);
        Check.due("2: unpopularityMargin()", x.unpopularityMargin(), 0);
        Check.due("2: isParetoOptimal()", x.isParetoOptimal(), 1);
        Check.due("2: undo()", x.undo(), 0);
    }

    private static void refusedCallsAndClearedMatchings() {
        PopularMatchings x = new PopularMatchings();
        Check.due("3: appendPreference(0, 0)", x.appendPreference(0, 0), 1);
        Check.due("3: appendPreference(0, 0)", x.appendPreference(0, 0), -102);
        Check.due("3: assign(0, 1)", x.assign(0, 1), -102);
        Check.due("3: assign(0, 0)", x.assign(0, 0), -1);
        Check.due("3: appendPreference(1, 0)", x.appendPreference(1, 0), 1);
        Check.due("3: postOf(0)", x.postOf(0), -1);
        Check.due("3: undo()", x.undo(), -104);
    }

    private static void aSavedMatchingAndACapacityOfTwo() {
        PopularMatchings x = new PopularMatchings();
        Check.due("4: reset(2, 1)", x.reset(2, 1), 4);
        Check.due("4: appendPreference(0, 0)", x.appendPreference(0, 0), 1);
        Check.due("4: appendPreference(1, 0)", x.appendPreference(1, 0), 1);
        Check.due("4: assign(0, 0)", x.assign(0, 0), -1);
        Check.due("4: assign(1, 0)", x.assign(1, 0), -103);
        Check.due("4: save()", x.save(), 1);
        Check.due("4: swapSaved()", x.swapSaved(), 1);
        Check.due("4: marginOverSaved()", x.marginOverSaved(), 0);
        Check.due("4: setCapacity(0, 2)", x.setCapacity(0, 2), 1);
        Check.due("4: popularCount()", x.popularCount(), 1);
    }
}
