/**
 * Preferences, votes, margins, the order of matchings and Pareto optimality at their boundaries
 * ("Matchings", promises 12 and 15 to 22). The sentence that a test rests on stands above it.
 */
final class VotesAndOrderTest {
    private static final String[] RIVALS = {"4", "4", "4", "4", "4", "4"};

    public static void main(String[] args) {
        anEarlierPostIsPreferred();
        eachPostIsPreferredToNone();
        theSamePostIsNoVote();
        everyApplicantHasOneVote();
        greatestAndLeastMargins();
        marginsKeepTheirSign();
        theUnpopularityMarginIsNeverBelowZero();
        popularIfTheMarginIsZero();
        lowerPostNumbersFirst();
        earlierApplicantsFirst();
        noneIsHigherThanAllPosts();
        theLeastOfManyChallengers();
        challengersOfThePresentMatching();
        theMarginBeforeTheChallenger();
        aChallengerMayHaveLosers();
        popularMatchingsInTheirOrder();
        aSecondPostMayBeTheLower();
        popularMatchingsAreOfTheInstance();
        noPopularMatching();
        greatestOfUnlikeSizes();
        paretoOneGainsAlone();
        paretoNobodyMayLose();
        paretoNeedsAGain();
        Check.end("VotesAndOrderTest");
    }

    /** "An applicant prefers a post that is earlier in the list to a later one", whatever their numbers. */
    private static void anEarlierPostIsPreferred() {
        String list = "31402";
        for (int a = 0; a < 6; a++) {
            for (int held = 0; held < 5; held++) {
                for (int offered = 0; offered < 5; offered++) {
                    String[] lists = {"", "", "", "", "", ""};
                    lists[a] = list;
                    PopularMatchings x = Check.withReset(6, 5, lists);
                    x.assign(a, list.charAt(held) - '0');
                    x.save();
                    x.assign(a, list.charAt(offered) - '0');
                    Check.due("place " + offered + " over " + held, x.marginOverSaved(), Integer.compare(held, offered));
                }
            }
        }
    }

    /** "and each post of the list to NONE", the last one of a full list too. */
    private static void eachPostIsPreferredToNone() {
        for (int length = 1; length <= 5; length++) {
            PopularMatchings x = Check.withReset(1, 5, "43210".substring(0, length));
            x.assign(0, 5 - length);
            Check.due("length " + length + ", over NONE: marginOverSaved()", x.marginOverSaved(), 1);
            x.swapSaved();
            Check.due("length " + length + ", NONE over it: marginOverSaved()", x.marginOverSaved(), -1);
            Check.due("length " + length + ", of NONE: unpopularityMargin()", x.unpopularityMargin(), 1);
            Check.due("length " + length + ", of NONE: isParetoOptimal()", x.isParetoOptimal(), 0);
        }
    }

    /** "and abstains if it is the same in both": the same post, or NONE in both. */
    private static void theSamePostIsNoVote() {
        PopularMatchings x = Check.withReset(6, 5, "0", "1", "2", "3", "4", "");
        Check.due("NONE in both: marginOverSaved()", x.marginOverSaved(), 0);
        x.adoptSerial(0);
        x.save();
        Check.due("the same posts: marginOverSaved()", x.marginOverSaved(), 0);
        for (int a = 0; a < 5; a++) {
            x.assign(a, -1);
            Check.due("all but " + (a + 1) + " alike: marginOverSaved()", x.marginOverSaved(), -1 - a);
        }
    }

    /** "The margin .. is the number of votes for M' minus the number of votes for M": one vote an applicant. */
    private static void everyApplicantHasOneVote() {
        for (int a = 0; a < 6; a++) {
            PopularMatchings x = Check.withReset(6, 5, "01234", "01234", "01234", "01234", "01234", "01234");
            x.assign(a, 4);
            x.save();
            x.assign(a, 0);
            Check.due("four places up, one vote: marginOverSaved(), applicant " + a, x.marginOverSaved(), 1);
        }
    }

    /** The greatest margin, 6, and the least, -6. */
    private static void greatestAndLeastMargins() {
        PopularMatchings x = Check.withReset(6, 5, "0", "0", "1", "2", "3", "4");
        x.setCapacity(0, 2);
        Check.due("nothing: unpopularityMargin()", x.unpopularityMargin(), 6);
        Check.due("adoptChallenger()", x.adoptChallenger(), 6);
        Check.due("all gain: marginOverSaved()", x.marginOverSaved(), 6);
        Check.due("all have their first: unpopularityMargin()", x.unpopularityMargin(), 0);
        Check.due("swapSaved()", x.swapSaved(), 0);
        Check.due("all lose: marginOverSaved()", x.marginOverSaved(), -6);
    }

    /** Promise 15: "the margin of the present matching over the saved matching", not the other way round. */
    private static void marginsKeepTheirSign() {
        PopularMatchings x = Check.withReset(3, 3, "012", "012", "012");
        x.adoptSerial(0);
        x.save();
        x.adoptSerial(1);
        Check.posts("adoptSerial(1)", x, 2, 0, 1);
        Check.due("two gain, one loses: marginOverSaved()", x.marginOverSaved(), 1);
        x.swapSaved();
        Check.due("two lose, one gains: marginOverSaved()", x.marginOverSaved(), -1);
        x.assign(2, -1);
        Check.due("one gains, two lose: marginOverSaved()", x.marginOverSaved(), -1);
        x.assign(0, -1);
        Check.due("all lose: marginOverSaved()", x.marginOverSaved(), -3);
    }

    /** "it is at least 0, since M itself has the margin 0". */
    private static void theUnpopularityMarginIsNeverBelowZero() {
        PopularMatchings x = Check.withReset(6, 5, "0", "1", "2", "3", "4", "");
        x.adoptSerial(0);
        Check.due("every other one is worse: unpopularityMargin()", x.unpopularityMargin(), 0);
        Check.due("every other one is worse: adoptChallenger()", x.adoptChallenger(), 0);
        Check.posts("M itself", x, 0, 1, 2, 3, 4, -1);
        x.reset(6, 5);
        Check.due("no other one: unpopularityMargin()", x.unpopularityMargin(), 0);
    }

    /** "M is popular if its unpopularity margin is 0": with 1 it is not. */
    private static void popularIfTheMarginIsZero() {
        PopularMatchings x = Check.withReset(2, 2, "01", "01");
        Check.due("popularCount()", x.popularCount(), 2);
        x.assign(0, 0);
        Check.due("margin 1: unpopularityMargin()", x.unpopularityMargin(), 1);
        x.assign(1, 1);
        Check.due("margin 0: unpopularityMargin()", x.unpopularityMargin(), 0);
        PopularMatchings one = Check.withReset(3, 2, "01", "01", "01");
        Check.due("each has margin 1 or more: popularCount()", one.popularCount(), 0);
        one.adoptSerial(0);
        Check.due("each has margin 1 or more: unpopularityMargin()", one.unpopularityMargin(), 1);
    }

    /** "the one is less in which applicant 0 has the lower post number", and so for each applicant alone. */
    private static void lowerPostNumbersFirst() {
        for (int a = 0; a < 6; a++) {
            for (int lowest = 0; lowest < 5; lowest++) {
                String[] lists = {"", "", "", "", "", ""};
                lists[a] = "43210".substring(0, 5 - lowest);
                PopularMatchings x = Check.withReset(6, 5, lists);
                Check.due("the lowest of " + lists[a] + ": challengerPost(" + a + ")", x.challengerPost(a), lowest);
            }
        }
    }

    /** "and with the same post for applicant 0 the one in which applicant 1 has the lower post number, and so on". */
    private static void earlierApplicantsFirst() {
        for (int one = 0; one < 6; one++) {
            for (int two = one + 1; two < 6; two++) {
                String[] lists = {"", "", "", "", "", ""};
                lists[one] = "01";
                lists[two] = "10";
                PopularMatchings x = Check.withReset(6, 5, lists);
                x.assign(one, -1);
                Check.due("0 for " + one + " before " + two, x.challengerPost(one), 0);
                Check.due("1 for " + two + " after " + one, x.challengerPost(two), 1);
                lists[one] = "10";
                lists[two] = "01";
                PopularMatchings y = Check.withReset(6, 5, lists);
                Check.due("0 for " + one + " before " + two + ", though it is its last", y.challengerPost(one), 0);
                Check.due("1 for " + two + " after " + one + ", though it is its last", y.challengerPost(two), 1);
            }
        }
    }

    /** "NONE counts as higher than all post numbers", than 4 too, for each applicant. */
    private static void noneIsHigherThanAllPosts() {
        PopularMatchings x = Check.withReset(6, 5, RIVALS);
        for (int a = 0; a < 6; a++) {
            Check.due("one place for six: challengerPost(" + a + ")", x.challengerPost(a), a == 0 ? 4 : -1);
        }
        for (int one = 0; one < 6; one++) {
            for (int two = one + 1; two < 6; two++) {
                String[] lists = {"", "", "", "", "", ""};
                lists[one] = "4";
                lists[two] = "4";
                PopularMatchings y = Check.withReset(6, 5, lists);
                y.adoptPopular(0);
                Check.due("the less: postOf(" + one + ")", y.postOf(one), 4);
                Check.due("the less: postOf(" + two + ")", y.postOf(two), -1);
                y.adoptPopular(1);
                Check.due("the greater: postOf(" + one + ")", y.postOf(one), -1);
                Check.due("the greater: postOf(" + two + ")", y.postOf(two), 4);
                Check.due("the present one holds it: challengerPost(" + one + ")", y.challengerPost(one), 4);
                Check.due("the present one holds it: challengerPost(" + two + ")", y.challengerPost(two), -1);
            }
        }
    }

    /** "The best challenger of M is the least matching whose margin over M is the unpopularity margin." */
    private static void theLeastOfManyChallengers() {
        PopularMatchings x = Check.withReset(6, 5, "43210", "43210", "43210", "43210", "43210", "43210");
        int[] want = {0, 1, 2, 3, 4, -1};
        for (int a = 0; a < 6; a++) {
            Check.due("five of six gain: challengerPost(" + a + ")", x.challengerPost(a), want[a]);
        }
        for (int post = 0; post < 5; post++) {
            x.setCapacity(post, 2);
        }
        Check.due("all gain: adoptChallenger()", x.adoptChallenger(), 6);
        Check.posts("all gain", x, 0, 0, 1, 1, 2, 2);
        PopularMatchings y = Check.withReset(3, 3, "210", "1", "0");
        y.assign(0, 0);
        Check.due("a less one has a less margin: unpopularityMargin()", y.unpopularityMargin(), 3);
        Check.due("a less one has a less margin: adoptChallenger()", y.adoptChallenger(), 3);
        Check.posts("a less one has a less margin", y, 2, 1, 0);
    }

    /** Promise 17: "the best challenger of the present matching", as it is at the call, not of the saved one. */
    private static void challengersOfThePresentMatching() {
        PopularMatchings x = Check.withReset(2, 3, "012", "012");
        Check.due("of nothing: challengerPost(1)", x.challengerPost(1), 1);
        x.assign(1, 1);
        x.save();
        Check.due("of a matching with 1: challengerPost(0)", x.challengerPost(0), 1);
        Check.due("of a matching with 1: challengerPost(1)", x.challengerPost(1), 0);
        x.assign(0, 0);
        Check.due("of a popular one: challengerPost(0)", x.challengerPost(0), 0);
        Check.due("of a popular one: challengerPost(1)", x.challengerPost(1), 1);
        x.undo();
        Check.due("after undo: challengerPost(1)", x.challengerPost(1), 0);
        x.assign(0, 0);
        x.swapSaved();
        Check.due("after swapSaved: challengerPost(1)", x.challengerPost(1), 0);
    }

    /** Promise 18: "Returns the unpopularity margin that the present matching had before." */
    private static void theMarginBeforeTheChallenger() {
        for (int n = 1; n <= 6; n++) {
            String[] lists = java.util.Arrays.copyOf(new String[] {"01", "10", "23", "32", "4", "4"}, n);
            PopularMatchings x = Check.withReset(n, 5, lists);
            int all = Math.min(n, 5);
            Check.due("N = " + n + ": adoptChallenger()", x.adoptChallenger(), all);
            Check.due("N = " + n + ": size()", x.size(), all);
        }
    }

    /** Promise 18: "Makes the best challenger the present matching", though some vote against it. */
    private static void aChallengerMayHaveLosers() {
        PopularMatchings x = Check.withReset(6, 5, "01", "01", "01", "23", "23", "4");
        x.assign(0, 0);
        x.assign(1, 1);
        x.assign(3, 2);
        x.assign(5, 4);
        Check.due("three gain, one loses: unpopularityMargin()", x.unpopularityMargin(), 2);
        Check.due("three gain, one loses: adoptChallenger()", x.adoptChallenger(), 2);
        Check.posts("three gain, one loses", x, -1, 0, 1, 2, 3, 4);
        Check.due("and again: adoptChallenger()", x.adoptChallenger(), 1);
        Check.posts("and again", x, 1, -1, 0, 2, 3, 4);
    }

    /** Promise 21: "0 for the least one, 1 for the next one, and so on". */
    private static void popularMatchingsInTheirOrder() {
        PopularMatchings x = Check.withReset(6, 5, RIVALS);
        for (int index = 0; index < 6; index++) {
            Check.due("adoptPopular(" + index + ")", x.adoptPopular(index), 1);
            for (int a = 0; a < 6; a++) {
                Check.due("adoptPopular(" + index + "): postOf(" + a + ")", x.postOf(a), a == index ? 4 : -1);
            }
        }
        x.setCapacity(4, 2);
        int index = 0;
        for (int one = 0; one < 6; one++) {
            for (int two = one + 1; two < 6; two++) {
                Check.due("two places: adoptPopular(" + index + ")", x.adoptPopular(index), 2);
                for (int a = 0; a < 6; a++) {
                    int want = a == one || a == two ? 4 : -1;
                    Check.due("two places: adoptPopular(" + index + "): postOf(" + a + ")", x.postOf(a), want);
                }
                index++;
            }
        }
        Check.due("two places: popularCount()", x.popularCount(), index);
    }

    /** The same: the order is that of post numbers, not of preferences. */
    private static void aSecondPostMayBeTheLower() {
        PopularMatchings x = Check.withReset(2, 5, "40", "41");
        Check.due("popularCount()", x.popularCount(), 2);
        x.adoptPopular(0);
        Check.posts("the first one's second post", x, 0, 4);
        x.adoptPopular(1);
        Check.posts("the first one's first post", x, 4, 1);
        PopularMatchings y = Check.withReset(4, 5, "1", "10", "32", "34");
        int[][] want = {{1, 0, 2, 3}, {1, 0, 3, 4}, {-1, 1, 2, 3}, {-1, 1, 3, 4}};
        Check.due("popularCount()", y.popularCount(), 4);
        for (int index = 0; index < 4; index++) {
            y.adoptPopular(index);
            Check.posts("adoptPopular(" + index + ")", y, want[index]);
        }
    }

    /** Promises 19 to 21 speak of the instance, so the present and the saved matching do not matter. */
    private static void popularMatchingsAreOfTheInstance() {
        PopularMatchings x = Check.listing(new PopularMatchings(), "01", "02");
        for (int edit = 0; edit < 4; edit++) {
            Check.due("popularCount()", x.popularCount(), 2);
            Check.due("greatestPopularSize()", x.greatestPopularSize(), 2);
            Check.due("adoptPopular(0)", x.adoptPopular(0), 2);
            Check.posts("adoptPopular(0)", x, 0, 2, -1, -1);
            Check.due("adoptPopular(1)", x.adoptPopular(1), 2);
            Check.posts("adoptPopular(1)", x, 1, 0, -1, -1);
            x.assign(edit % 2, -1);
            x.save();
        }
    }

    /** Promise 20: "NOT_FOUND if there is none"; promise 21: "NOT_FOUND if there is no such popular matching". */
    private static void noPopularMatching() {
        for (int n = 3; n <= 6; n++) {
            PopularMatchings x = Check.withReset(n, 2, java.util.Arrays.copyOf(
                    new String[] {"01", "01", "01", "01", "01", "01"}, n));
            Check.due("N = " + n + ": popularCount()", x.popularCount(), 0);
            Check.due("N = " + n + ": greatestPopularSize()", x.greatestPopularSize(), -104);
            Check.due("N = " + n + ": adoptPopular(0)", x.adoptPopular(0), -104);
            Check.due("N = " + n + ": adoptPopular(-1)", x.adoptPopular(-1), -101);
        }
    }

    /** Promise 20: "the greatest size of a popular matching", be it the least, the last or a middle one; 0 to 6. */
    private static void greatestOfUnlikeSizes() {
        Check.due("the first: greatestPopularSize()", Check.withReset(2, 2, "0", "01").greatestPopularSize(), 2);
        Check.due("the last: greatestPopularSize()", Check.withReset(2, 2, "01", "0").greatestPopularSize(), 2);
        PopularMatchings middle = Check.withReset(3, 2, "0", "01", "0");
        Check.due("a middle one: popularCount()", middle.popularCount(), 3);
        Check.due("a middle one: adoptPopular(0)", middle.adoptPopular(0), 2);
        Check.due("a middle one: adoptPopular(1)", middle.adoptPopular(1), 1);
        Check.due("a middle one: adoptPopular(2)", middle.adoptPopular(2), 2);
        Check.due("a middle one: greatestPopularSize()", middle.greatestPopularSize(), 2);
        Check.due("none has a post: greatestPopularSize()", new PopularMatchings().greatestPopularSize(), 0);
        PopularMatchings all = Check.withReset(6, 5, "0", "0", "1", "2", "3", "4");
        Check.due("one without: greatestPopularSize()", all.greatestPopularSize(), 5);
        all.setCapacity(0, 2);
        Check.due("all: greatestPopularSize()", all.greatestPopularSize(), 6);
    }

    /** "at least one applicant has a post that the applicant prefers": one is enough, whichever it is. */
    private static void paretoOneGainsAlone() {
        for (int a = 0; a < 6; a++) {
            PopularMatchings x = Check.withReset(6, 5, "0", "0", "1", "2", "3", "4");
            x.setCapacity(0, 2);
            x.adoptSerial(0);
            Check.due("all have their first: isParetoOptimal()", x.isParetoOptimal(), 1);
            x.assign(a, -1);
            Check.due("but applicant " + a + ": isParetoOptimal()", x.isParetoOptimal(), 0);
        }
        PopularMatchings last = Check.withReset(1, 5, "01234");
        for (int post = 4; post >= 0; post--) {
            last.assign(0, post);
            Check.due("with post " + post + ": isParetoOptimal()", last.isParetoOptimal(), post == 0 ? 1 : 0);
        }
    }

    /** "and no applicant has a post to which the one in M is preferred": five gains do not make up for one loss. */
    private static void paretoNobodyMayLose() {
        PopularMatchings x = Check.withReset(6, 5, "0", "10", "21", "32", "43", "4");
        x.assign(0, -1);
        for (int a = 1; a < 5; a++) {
            x.assign(a, a - 1);
        }
        x.assign(5, 4);
        Check.due("all up but the last: unpopularityMargin()", x.unpopularityMargin(), 4);
        Check.due("all up but the last: isParetoOptimal()", x.isParetoOptimal(), 1);
        x.setCapacity(4, 2);
        for (int a = 1; a < 5; a++) {
            x.assign(a, a - 1);
        }
        x.assign(5, 4);
        Check.due("a place more: isParetoOptimal()", x.isParetoOptimal(), 0);
    }

    /** "at least one": where all others are worse or the same, M is Pareto optimal. */
    private static void paretoNeedsAGain() {
        Check.due("no lists: isParetoOptimal()", new PopularMatchings().isParetoOptimal(), 1);
        PopularMatchings x = Check.withReset(6, 5, "4", "4", "4", "4", "4", "4");
        for (int a = 0; a < 6; a++) {
            Check.due("nobody has it: isParetoOptimal()", x.isParetoOptimal(), 0);
            x.assign(a, 4);
            Check.due("applicant " + a + " has it: isParetoOptimal()", x.isParetoOptimal(), 1);
            x.assign(a, -1);
        }
    }
}
