/**
 * The ranges of applicants, posts, capacities and positions. The sentence that a test rests on
 * stands above it.
 */
final class RangesTest {
    private static final int BAD = -101;
    private static final int MIN = Integer.MIN_VALUE;
    private static final int MAX = Integer.MAX_VALUE;

    public static void main(String[] args) {
        applicantsAreOneToSix();
        postsAreOneToFive();
        for (int n = 1; n <= 6; n++) {
            for (int p = 1; p <= 5; p++) {
                applicantsFromZeroToLast(n, p);
                noApplicantBeyond(n, p);
                postsFromZeroToLast(n, p);
                noPostBeyond(n, p);
                capacitiesOneAndTwo(n, p);
            }
        }
        capacitiesOutOfRange();
        noneIsAPostForAssignAlone();
        positionsInAList();
        positionsAreOfTheApplicantsOwnList();
        positionsAmongPopularMatchings();
        rangesFollowTheLatestReset();
        Check.end("RangesTest");
    }

    private static PopularMatchings sized(int n, int p) {
        PopularMatchings x = new PopularMatchings();
        Check.due("reset(" + n + ", " + p + ")", x.reset(n, p), 4);
        return x;
    }

    /** Promise 2: "applicants: the new N, 1 to 6"; "INVALID_ARGUMENT if an argument is out of range". */
    private static void applicantsAreOneToSix() {
        for (int n : new int[] {MIN, -6, -2, -1, 0, 7, 8, 10, 1 << 16, MAX - 1, MAX}) {
            for (int p = 1; p <= 5; p++) {
                PopularMatchings x = new PopularMatchings();
                Check.due("reset(" + n + ", " + p + ")", x.reset(n, p), BAD);
                Check.due("refused, so N is 4: postOf(3)", x.postOf(3), -1);
                Check.due("refused, so N is 4: postOf(4)", x.postOf(4), BAD);
            }
        }
        for (int n = 1; n <= 6; n++) {
            PopularMatchings x = sized(n, 3);
            Check.due("then reset(1, 1)", x.reset(1, 1), n);
        }
    }

    /** Promise 2: "posts: the new P, 1 to 5"; "INVALID_ARGUMENT if an argument is out of range". */
    private static void postsAreOneToFive() {
        for (int p : new int[] {MIN, -5, -2, -1, 0, 6, 7, 10, 1 << 16, MAX - 1, MAX}) {
            for (int n = 1; n <= 6; n++) {
                PopularMatchings x = new PopularMatchings();
                Check.due("reset(" + n + ", " + p + ")", x.reset(n, p), BAD);
                Check.due("refused, so P is 3: setCapacity(2, 1)", x.setCapacity(2, 1), 1);
                Check.due("refused, so P is 3: setCapacity(3, 1)", x.setCapacity(3, 1), BAD);
            }
        }
        for (int p = 1; p <= 5; p++) {
            PopularMatchings x = sized(2, p);
            Check.due("setCapacity(P - 1, 2), P = " + p, x.setCapacity(p - 1, 2), 1);
            Check.due("setCapacity(P, 2), P = " + p, x.setCapacity(p, 2), BAD);
        }
    }

    /** Instance: "There are N applicants (1 to 6), numbered from 0". */
    private static void applicantsFromZeroToLast(int n, int p) {
        String in = " with N = " + n + ", P = " + p;
        for (int a = 0; a < n; a++) {
            PopularMatchings x = sized(n, p);
            Check.due("preferenceAt(" + a + ", 0)" + in, x.preferenceAt(a, 0), -104);
            Check.due("firstPost(" + a + ")" + in, x.firstPost(a), -1);
            Check.due("secondPost(" + a + ")" + in, x.secondPost(a), -1);
            Check.due("postOf(" + a + ")" + in, x.postOf(a), -1);
            Check.due("challengerPost(" + a + ")" + in, x.challengerPost(a), -1);
            Check.due("assign(" + a + ", NONE)" + in, x.assign(a, -1), -1);
            Check.due("adoptSerial(" + a + ")" + in, x.adoptSerial(a), 0);
            Check.due("appendPreference(" + a + ", 0)" + in, x.appendPreference(a, 0), 1);
            Check.due("firstPost(" + a + ")" + in, x.firstPost(a), 0);
            Check.due("assign(" + a + ", 0)" + in, x.assign(a, 0), -1);
            Check.due("clearPreferences(" + a + ")" + in, x.clearPreferences(a), 1);
        }
    }

    /** Each method of an applicant: "INVALID_ARGUMENT if there is no such applicant". */
    private static void noApplicantBeyond(int n, int p) {
        PopularMatchings x = sized(n, p);
        String in = " with N = " + n + ", P = " + p;
        for (int a : new int[] {MIN, -2, -1, n, n + 1, 6, 7, MAX}) {
            Check.due("promise 4: appendPreference(" + a + ", 0)" + in, x.appendPreference(a, 0), BAD);
            Check.due("promise 5: clearPreferences(" + a + ")" + in, x.clearPreferences(a), BAD);
            Check.due("promise 6: preferenceAt(" + a + ", 0)" + in, x.preferenceAt(a, 0), BAD);
            Check.due("promise 7: firstPost(" + a + ")" + in, x.firstPost(a), BAD);
            Check.due("promise 8: secondPost(" + a + ")" + in, x.secondPost(a), BAD);
            Check.due("promise 9: assign(" + a + ", 0)" + in, x.assign(a, 0), BAD);
            Check.due("promise 9: assign(" + a + ", NONE)" + in, x.assign(a, -1), BAD);
            Check.due("promise 10: postOf(" + a + ")" + in, x.postOf(a), BAD);
            Check.due("promise 17: challengerPost(" + a + ")" + in, x.challengerPost(a), BAD);
            Check.due("promise 22: adoptSerial(" + a + ")" + in, x.adoptSerial(a), BAD);
        }
    }

    /** Instance: "and P posts (1 to 5), numbered from 0". */
    private static void postsFromZeroToLast(int n, int p) {
        String in = " with N = " + n + ", P = " + p;
        for (int post = 0; post < p; post++) {
            PopularMatchings x = sized(n, p);
            Check.due("setCapacity(" + post + ", 1)" + in, x.setCapacity(post, 1), 1);
            Check.due("appendPreference(N - 1, " + post + ")" + in, x.appendPreference(n - 1, post), 1);
            Check.due("preferenceAt(N - 1, 0)" + in, x.preferenceAt(n - 1, 0), post);
            Check.due("assign(N - 1, " + post + ")" + in, x.assign(n - 1, post), -1);
            Check.due("postOf(N - 1)" + in, x.postOf(n - 1), post);
            Check.due("assign(N - 1, NONE)" + in, x.assign(n - 1, -1), post);
        }
    }

    /** Promises 3, 4 and 9: "INVALID_ARGUMENT if an argument is out of range", of posts. */
    private static void noPostBeyond(int n, int p) {
        PopularMatchings x = sized(n, p);
        String in = " with N = " + n + ", P = " + p;
        for (int post : new int[] {MIN, -3, -2, p, p + 1, 5, 6, MAX}) {
            Check.due("promise 3: setCapacity(" + post + ", 1)" + in, x.setCapacity(post, 1), BAD);
            Check.due("promise 3: setCapacity(" + post + ", 2)" + in, x.setCapacity(post, 2), BAD);
            Check.due("promise 4: appendPreference(0, " + post + ")" + in, x.appendPreference(0, post), BAD);
            Check.due("promise 9: assign(0, " + post + ")" + in, x.assign(0, post), BAD);
        }
    }

    /** Instance: "Each post has a capacity of 1 or 2"; promise 3: "Returns the previous capacity". */
    private static void capacitiesOneAndTwo(int n, int p) {
        String in = " with N = " + n + ", P = " + p;
        for (int post = 0; post < p; post++) {
            PopularMatchings x = sized(n, p);
            Check.due("setCapacity(" + post + ", 1)" + in, x.setCapacity(post, 1), 1);
            Check.due("setCapacity(" + post + ", 2)" + in, x.setCapacity(post, 2), 1);
            Check.due("setCapacity(" + post + ", 2)" + in, x.setCapacity(post, 2), 2);
            for (int other = 0; other < p; other++) {
                int want = other == post ? 2 : 1;
                Check.due("of each post its own: setCapacity(" + other + ", 1)" + in, x.setCapacity(other, 1), want);
            }
        }
    }

    /** Promise 3: "capacity: 1 or 2"; "INVALID_ARGUMENT if an argument is out of range". */
    private static void capacitiesOutOfRange() {
        for (int capacity : new int[] {MIN, -2, -1, 0, 3, 4, 6, 257, 258, MAX}) {
            PopularMatchings x = sized(6, 5);
            for (int post = 0; post < 5; post++) {
                Check.due("setCapacity(" + post + ", " + capacity + ")", x.setCapacity(post, capacity), BAD);
                Check.due("refused, so still 1: setCapacity(" + post + ", 2)", x.setCapacity(post, 2), 1);
                Check.due("setCapacity(" + post + ", " + capacity + ")", x.setCapacity(post, capacity), BAD);
                Check.due("refused, so still 2: setCapacity(" + post + ", 1)", x.setCapacity(post, 1), 2);
            }
        }
    }

    /** Promise 9: "post: number of a post, or NONE"; for setCapacity and appendPreference NONE is no post. */
    private static void noneIsAPostForAssignAlone() {
        PopularMatchings x = Check.listing(new PopularMatchings(), "0");
        Check.due("assign(0, NONE)", x.assign(0, -1), -1);
        Check.due("with an empty list: assign(1, NONE)", x.assign(1, -1), -1);
        Check.due("setCapacity(NONE, 1)", x.setCapacity(-1, 1), BAD);
        Check.due("appendPreference(0, NONE)", x.appendPreference(0, -1), BAD);
        Check.due("appendPreference(1, NONE)", x.appendPreference(1, -1), BAD);
    }

    /** Promise 6: "INVALID_ARGUMENT if .. index is negative; NOT_FOUND if the list is not so long". */
    private static void positionsInAList() {
        String posts = "30241";
        for (int length = 0; length <= 5; length++) {
            for (int a = 0; a < 6; a++) {
                String[] lists = {"", "", "", "", "", ""};
                lists[a] = posts.substring(0, length);
                PopularMatchings x = Check.withReset(6, 5, lists);
                for (int index = 0; index < 7; index++) {
                    int want = index < length ? posts.charAt(index) - '0' : -104;
                    Check.due("length " + length + ": preferenceAt(" + a + ", " + index + ")", x.preferenceAt(a, index), want);
                }
                Check.due("length " + length + ": preferenceAt(" + a + ", MAX)", x.preferenceAt(a, MAX), -104);
                Check.due("length " + length + ": preferenceAt(" + a + ", -1)", x.preferenceAt(a, -1), BAD);
                Check.due("length " + length + ": preferenceAt(" + a + ", MIN)", x.preferenceAt(a, MIN), BAD);
            }
        }
    }

    /** Promise 6: "NOT_FOUND if the list is not so long", though the next applicant's list is long. */
    private static void positionsAreOfTheApplicantsOwnList() {
        PopularMatchings x = Check.withReset(6, 5, "01234", "4", "", "43210", "01", "2");
        int[] lengths = {5, 1, 0, 5, 2, 1};
        for (int a = 0; a < 6; a++) {
            for (int index = lengths[a]; index < 30; index++) {
                Check.due("preferenceAt(" + a + ", " + index + ")", x.preferenceAt(a, index), -104);
            }
        }
    }

    /** Promise 21: "INVALID_ARGUMENT if index is negative; NOT_FOUND if there is no such popular matching". */
    private static void positionsAmongPopularMatchings() {
        for (int rivals = 1; rivals <= 6; rivals++) {
            PopularMatchings x = Check.withReset(6, 1, new String[] {"0", "0", "0", "0", "0", "0"});
            for (int a = rivals; a < 6; a++) {
                x.clearPreferences(a);
            }
            for (int index = 0; index < 10; index++) {
                Check.due(rivals + " rivals: adoptPopular(" + index + ")", x.adoptPopular(index), index < rivals ? 1 : -104);
            }
            for (int index : new int[] {63, 64, 65, 1 << 16, MAX}) {
                Check.due(rivals + " rivals: adoptPopular(" + index + ")", x.adoptPopular(index), -104);
            }
            for (int index : new int[] {-1, -2, -64, MIN}) {
                Check.due(rivals + " rivals: adoptPopular(" + index + ")", x.adoptPopular(index), BAD);
            }
        }
    }

    /** Promise 2: "Starts anew with other numbers of applicants and posts". */
    private static void rangesFollowTheLatestReset() {
        PopularMatchings x = sized(6, 5);
        Check.due("smaller: reset(2, 2)", x.reset(2, 2), 6);
        Check.due("smaller: postOf(1)", x.postOf(1), -1);
        Check.due("smaller: postOf(2)", x.postOf(2), BAD);
        Check.due("smaller: appendPreference(1, 1)", x.appendPreference(1, 1), 1);
        Check.due("smaller: appendPreference(1, 2)", x.appendPreference(1, 2), BAD);
        Check.due("greater: reset(3, 4)", x.reset(3, 4), 2);
        Check.due("greater: postOf(2)", x.postOf(2), -1);
        Check.due("greater: postOf(3)", x.postOf(3), BAD);
        Check.due("greater: appendPreference(2, 3)", x.appendPreference(2, 3), 1);
        Check.due("greater: appendPreference(2, 4)", x.appendPreference(2, 4), BAD);
    }
}
