/**
 * "First and second posts", promises 7 and 8, at their boundaries. The sentence that a test rests
 * on stands above it.
 */
final class SecondPostsTest {
    public static void main(String[] args) {
        firstOfEachLength();
        noneIfTheListIsEmpty();
        noneIfThereIsNone();
        notTheFirstPostItself();
        firstPostsUpToTheCapacity();
        alwaysIfItIsNobodysFirst();
        firstPostsAloneCount();
        everyApplicantCounts();
        theFirstOfThoseThatAreLeft();
        othersChangeTheSecondPost();
        matchingsDoNotCount();
        Check.end("SecondPostsTest");
    }

    private static void due(String when, PopularMatchings x, int... want) {
        for (int a = 0; a < want.length; a++) {
            Check.due(when + ": secondPost(" + a + ")", x.secondPost(a), want[a]);
        }
    }

    /** "The first post of an applicant is the first post of the list", be it short or full. */
    private static void firstOfEachLength() {
        for (int first = 0; first < 5; first++) {
            for (int a = 0; a < 6; a++) {
                PopularMatchings x = new PopularMatchings();
                x.reset(6, 5);
                for (int index = 0; index < 5; index++) {
                    x.appendPreference(a, (first + index) % 5);
                    Check.due("length " + (index + 1) + ": firstPost(" + a + ")", x.firstPost(a), first);
                }
            }
        }
    }

    /** "or NONE if the list is empty". */
    private static void noneIfTheListIsEmpty() {
        PopularMatchings x = Check.withReset(6, 5, "0", "", "0", "", "0", "");
        for (int a = 0; a < 6; a++) {
            Check.due("firstPost(" + a + ")", x.firstPost(a), a % 2 == 0 ? 0 : -1);
        }
        due("empty", x, -1, -1, -1, -1, -1, -1);
        x.clearPreferences(0);
        Check.due("emptied: firstPost(0)", x.firstPost(0), -1);
        due("emptied", x, -1, -1, -1, -1, -1, -1);
    }

    /** "it is NONE if there is none": a list of one post, or of posts that are all taken as first ones. */
    private static void noneIfThereIsNone() {
        due("a list of one", Check.withReset(1, 5, "3"), -1);
        PopularMatchings x = Check.withReset(5, 5, "01234", "1", "2", "3", "4");
        due("all are first ones", x, -1, -1, -1, -1, -1);
        x.setCapacity(4, 2);
        due("but the last has room", x, 4, -1, -1, -1, -1);
    }

    /** "other than the first post of the applicant", though fewer want it than it could take. */
    private static void notTheFirstPostItself() {
        PopularMatchings x = Check.withReset(2, 3, "012", "2");
        x.setCapacity(0, 2);
        due("its first post has room", x, 1, -1);
        x.setCapacity(2, 2);
        due("its first post has room", x, 1, -1);
        PopularMatchings alone = Check.withReset(1, 1, "0");
        alone.setCapacity(0, 2);
        due("its first post has room", alone, -1);
    }

    /** "for which f(p) is less than the capacity of p": one less, as many, one more. */
    private static void firstPostsUpToTheCapacity() {
        for (int capacity = 1; capacity <= 2; capacity++) {
            for (int wanting = 0; wanting <= 5; wanting++) {
                PopularMatchings x = Check.withReset(6, 5, "04", "", "", "", "", "");
                x.setCapacity(4, capacity);
                for (int a = 1; a <= wanting; a++) {
                    x.appendPreference(a, 4);
                }
                due("capacity " + capacity + ", f = " + wanting, x, wanting < capacity ? 4 : -1);
            }
        }
    }

    /** "(For a post p with f(p) = 0 this is always so.)" */
    private static void alwaysIfItIsNobodysFirst() {
        for (int post = 1; post < 5; post++) {
            for (int capacity = 1; capacity <= 2; capacity++) {
                String list = "0" + post;
                PopularMatchings x = Check.withReset(6, 5, list, list, list, list, list, list);
                x.setCapacity(post, capacity);
                due("nobody's first: post " + post, x, post, post, post, post, post, post);
            }
        }
    }

    /** "Let f(p) be the number of applicants whose first post is p": later places in the lists do not count. */
    private static void firstPostsAloneCount() {
        PopularMatchings x = Check.withReset(6, 5, "01", "01", "21", "21", "31", "431");
        due("listed behind others", x, 1, 1, 1, 1, 1, 1);
        x.setCapacity(3, 2);
        due("one place of two wanted", x, 1, 1, 1, 1, 1, 3);
    }

    /** The same: each of the N applicants counts, the first and the last too. */
    private static void everyApplicantCounts() {
        for (int n = 2; n <= 6; n++) {
            for (int wanting = 0; wanting < n; wanting++) {
                String[] lists = new String[n];
                java.util.Arrays.fill(lists, "01");
                lists[wanting] = "1";
                PopularMatchings x = Check.withReset(n, 2, lists);
                for (int a = 0; a < n; a++) {
                    Check.due("applicant " + wanting + " of " + n + " wants it: secondPost(" + a + ")", x.secondPost(a), -1);
                }
                Check.due("clearPreferences", x.clearPreferences(wanting), 1);
                for (int a = 0; a < n; a++) {
                    Check.due("nobody wants it: secondPost(" + a + ")", x.secondPost(a), a == wanting ? -1 : 1);
                }
            }
        }
    }

    /** "the first post p of the list": of several that have room the earliest, wherever it stands. */
    private static void theFirstOfThoseThatAreLeft() {
        due("at once", Check.withReset(1, 5, "20143"), 0);
        due("one passed over", Check.withReset(2, 5, "20143", "0"), 1, -1);
        due("two passed over", Check.withReset(3, 5, "20143", "0", "1"), 4, -1, -1);
        due("three passed over", Check.withReset(4, 5, "20143", "0", "1", "4"), 3, -1, -1, -1);
        due("four passed over", Check.withReset(5, 5, "20143", "0", "1", "4", "3"), -1, -1, -1, -1, -1);
    }

    /** Second posts are told by the lists and capacities as they stand. */
    private static void othersChangeTheSecondPost() {
        PopularMatchings x = Check.withReset(2, 3, "012");
        due("before", x, 1, -1);
        x.appendPreference(1, 1);
        due("post 1 is wanted", x, 2, -1);
        x.setCapacity(1, 2);
        due("post 1 has two places", x, 1, -1);
        x.setCapacity(1, 1);
        due("post 1 has one place", x, 2, -1);
        x.clearPreferences(1);
        due("nobody wants post 1", x, 1, -1);
    }

    /** f(p) speaks of lists, so the present matching takes nothing away. */
    private static void matchingsDoNotCount() {
        PopularMatchings x = Check.withReset(2, 2, "01", "01");
        x.assign(0, 1);
        due("post 1 is held", x, 1, 1);
        x.save();
        due("post 1 is held", x, 1, 1);
    }
}
