/**
 * When lists, posts and matchings are empty or full. The sentence that a test rests on stands
 * above it.
 */
final class EmptyAndFullTest {
    private static final int UNLISTED = -102;
    private static final int FULL = -103;

    public static void main(String[] args) {
        newObject();
        objectsAreApart();
        anEmptyList();
        aListFillsUp();
        aPostStandsInAListOnce();
        aListIsClearedAndFilledAgain();
        oneListTouchesNoOther();
        aPostOfTheListOrNone();
        aPostOfCapacityOne();
        aPostOfCapacityTwo();
        onlyOtherApplicantsCount();
        aPostIsLeftForAnother();
        sizesFromNoneToAll();
        allPlacesTaken();
        searchesKeepToTheCapacities();
        serialChoiceWithoutRoom();
        serialChoiceGoesRound();
        oneApplicantOnePost();
        the512thCall();
        Check.end("EmptyAndFullTest");
    }

    /** Promise 1, and Instance: "Initially N is 4, P is 3, all capacities are 1, and all lists are empty." */
    private static void newObject() {
        Check.due("N: reset(1, 1)", new PopularMatchings().reset(1, 1), 4);
        PopularMatchings x = new PopularMatchings();
        for (int a = 0; a < 4; a++) {
            Check.due("all lists are empty: clearPreferences(" + a + ")", x.clearPreferences(a), 0);
        }
        Check.due("N is 4: clearPreferences(4)", x.clearPreferences(4), -101);
        for (int post = 0; post < 3; post++) {
            Check.due("all capacities are 1: setCapacity(" + post + ", 1)", x.setCapacity(post, 1), 1);
        }
        Check.due("P is 3: setCapacity(3, 1)", x.setCapacity(3, 1), -101);
    }

    /** Promise 1: "Creates a workbench with the initial instance", whatever other objects hold. */
    private static void objectsAreApart() {
        PopularMatchings one = Check.listing(new PopularMatchings(), "012", "10");
        one.setCapacity(1, 2);
        one.adoptSerial(0);
        one.save();
        PopularMatchings other = new PopularMatchings();
        Check.posts("another object", other, -1, -1, -1, -1);
        Check.due("another object: firstPost(0)", other.firstPost(0), -1);
        Check.due("another object: undo()", other.undo(), -104);
        Check.due("another object: swapSaved()", other.swapSaved(), 0);
        Check.due("another object: reset(6, 5)", other.reset(6, 5), 4);
        Check.posts("the first object", one, 0, 1, -1, -1, -101);
        Check.due("the first object: setCapacity(1, 1)", one.setCapacity(1, 1), 2);
    }

    /** Instance: a list "may be empty"; First and second posts: "or NONE if the list is empty". */
    private static void anEmptyList() {
        PopularMatchings x = Check.withReset(2, 5, "", "0");
        Check.due("firstPost(0)", x.firstPost(0), -1);
        Check.due("secondPost(0)", x.secondPost(0), -1);
        Check.due("preferenceAt(0, 0)", x.preferenceAt(0, 0), -104);
        for (int post = 0; post < 5; post++) {
            Check.due("assign(0, " + post + ")", x.assign(0, post), UNLISTED);
        }
        Check.due("challengerPost(0)", x.challengerPost(0), -1);
        Check.due("adoptChallenger()", x.adoptChallenger(), 1);
        Check.posts("adoptChallenger()", x, -1, 0);
        Check.due("adoptSerial(0)", x.adoptSerial(0), 1);
        Check.posts("adoptSerial(0)", x, -1, 0);
        Check.due("popularCount()", x.popularCount(), 1);
        Check.due("adoptPopular(0)", x.adoptPopular(0), 1);
        Check.posts("adoptPopular(0)", x, -1, 0);
        Check.due("clearPreferences(0)", x.clearPreferences(0), 0);
        Check.due("clearPreferences(1)", x.clearPreferences(1), 1);
        Check.due("all lists empty: popularCount()", x.popularCount(), 1);
        Check.due("all lists empty: greatestPopularSize()", x.greatestPopularSize(), 0);
        Check.due("all lists empty: isParetoOptimal()", x.isParetoOptimal(), 1);
        Check.due("all lists empty: unpopularityMargin()", x.unpopularityMargin(), 0);
        Check.due("all lists empty: adoptSerial(1)", x.adoptSerial(1), 0);
    }

    /** Promise 4: "Returns the new length of the list", up to all P posts, and no post fits in then. */
    private static void aListFillsUp() {
        for (int p = 1; p <= 5; p++) {
            PopularMatchings x = new PopularMatchings();
            x.reset(6, p);
            for (int a = 0; a < 6; a++) {
                for (int index = 0; index < p; index++) {
                    int post = (a + index) % p;
                    Check.due("appendPreference(" + a + ", " + post + ")", x.appendPreference(a, post), index + 1);
                }
                for (int post = 0; post < p; post++) {
                    Check.due("full: appendPreference(" + a + ", " + post + ")", x.appendPreference(a, post), UNLISTED);
                }
                Check.due("full: appendPreference(" + a + ", P)", x.appendPreference(a, p), -101);
            }
            for (int a = 0; a < 6; a++) {
                for (int index = 0; index < p; index++) {
                    Check.due("full: preferenceAt(" + a + ", " + index + ")", x.preferenceAt(a, index), (a + index) % p);
                }
                Check.due("full: preferenceAt(" + a + ", P)", x.preferenceAt(a, p), -104);
                Check.due("full: clearPreferences(" + a + ")", x.clearPreferences(a), p);
            }
        }
    }

    /** Promise 4: "INVALID_STATE if the post is in the list already", as the first, a middle or the last one. */
    private static void aPostStandsInAListOnce() {
        String posts = "42013";
        for (int length = 1; length <= 5; length++) {
            PopularMatchings x = Check.withReset(6, 5, "", "", "", "", "", posts.substring(0, length));
            for (int index = 0; index < length; index++) {
                int post = posts.charAt(index) - '0';
                Check.due("length " + length + ": appendPreference(5, " + post + ")", x.appendPreference(5, post), UNLISTED);
            }
            Check.due("length " + length + ": preferenceAt(5, length)", x.preferenceAt(5, length), -104);
            if (length < 5) {
                int post = posts.charAt(length) - '0';
                Check.due("not in it yet: appendPreference(5, " + post + ")", x.appendPreference(5, post), length + 1);
            }
        }
    }

    /** Promise 5: "Empties the list of an applicant"; "Returns the length that the list had", 0 to 5. */
    private static void aListIsClearedAndFilledAgain() {
        PopularMatchings x = new PopularMatchings();
        x.reset(6, 5);
        for (int length = 0; length <= 5; length++) {
            for (int post = 0; post < length; post++) {
                Check.due("again: appendPreference(3, " + post + ")", x.appendPreference(3, post), post + 1);
            }
            Check.due("clearPreferences(3)", x.clearPreferences(3), length);
            Check.due("cleared: clearPreferences(3)", x.clearPreferences(3), 0);
            Check.due("cleared: preferenceAt(3, 0)", x.preferenceAt(3, 0), -104);
            Check.due("cleared: firstPost(3)", x.firstPost(3), -1);
            Check.due("cleared: assign(3, 0)", x.assign(3, 0), UNLISTED);
        }
    }

    /** Promises 4 and 5 speak of "the list of an applicant", so the other lists stay. */
    private static void oneListTouchesNoOther() {
        for (int a = 0; a < 6; a++) {
            PopularMatchings x = Check.withReset(6, 5, "01234", "12340", "23401", "34012", "40123", "01234");
            Check.due("clearPreferences(" + a + ")", x.clearPreferences(a), 5);
            Check.due("appendPreference(" + a + ", 2)", x.appendPreference(a, 2), 1);
            for (int other = 0; other < 6; other++) {
                for (int index = 0; index < 5; index++) {
                    int want = other != a ? (other + index) % 5 : index == 0 ? 2 : -104;
                    Check.due("preferenceAt(" + other + ", " + index + ")", x.preferenceAt(other, index), want);
                }
            }
        }
    }

    /** Matchings: "a post of the applicant's list, or NONE"; promise 9: "INVALID_STATE if the post is not in the list". */
    private static void aPostOfTheListOrNone() {
        for (int length = 0; length <= 5; length++) {
            PopularMatchings x = Check.withReset(6, 5, "01234", "", "", "", "", "40312".substring(0, length));
            for (int post = 0; post < 5; post++) {
                boolean listed = "40312".indexOf('0' + post) < length;
                Check.due("length " + length + ": assign(5, " + post + ")", x.assign(5, post), listed ? -1 : UNLISTED);
                Check.due("length " + length + ": postOf(5)", x.postOf(5), listed ? post : -1);
                Check.due("length " + length + ": assign(5, NONE)", x.assign(5, -1), listed ? post : -1);
                Check.due("length " + length + ": postOf(5)", x.postOf(5), -1);
            }
        }
    }

    /** Promise 9: "LIMIT_REACHED if the post already has as many other applicants as its capacity", 1. */
    private static void aPostOfCapacityOne() {
        for (int post = 0; post < 5; post++) {
            String list = String.valueOf(post);
            for (int holder = 0; holder < 6; holder++) {
                PopularMatchings x = Check.withReset(6, 5, list, list, list, list, list, list);
                Check.due("assign(" + holder + ", " + post + ")", x.assign(holder, post), -1);
                for (int a = 0; a < 6; a++) {
                    Check.due("held: assign(" + a + ", " + post + ")", x.assign(a, post), a == holder ? post : FULL);
                }
                Check.due("size()", x.size(), 1);
            }
        }
    }

    /** The same with a capacity of 2: one other applicant leaves room, two leave none. */
    private static void aPostOfCapacityTwo() {
        for (int one = 0; one < 6; one++) {
            for (int two = 0; two < 6; two++) {
                if (one != two) {
                    PopularMatchings x = Check.withReset(6, 5, "4", "4", "4", "4", "4", "4");
                    x.setCapacity(4, 2);
                    Check.due("assign(" + one + ", 4)", x.assign(one, 4), -1);
                    Check.due("one other: assign(" + two + ", 4)", x.assign(two, 4), -1);
                    for (int a = 0; a < 6; a++) {
                        Check.due("two others: assign(" + a + ", 4)", x.assign(a, 4), a == one || a == two ? 4 : FULL);
                    }
                    Check.due("size()", x.size(), 2);
                }
            }
        }
    }

    /** Promise 9 counts "other applicants": an applicant may be given the post that it has, though it is full. */
    private static void onlyOtherApplicantsCount() {
        PopularMatchings x = Check.listing(new PopularMatchings(), "01", "01", "01");
        x.assign(0, 0);
        x.assign(1, 1);
        Check.due("its own, capacity 1: assign(0, 0)", x.assign(0, 0), 0);
        Check.due("the other's, capacity 1: assign(0, 1)", x.assign(0, 1), FULL);
        Check.posts("refused, so it keeps its post", x, 0, 1, -1, -1);
        x.setCapacity(1, 2);
        x.assign(0, 1);
        x.assign(2, 1);
        Check.due("its own, capacity 2: assign(2, 1)", x.assign(2, 1), 1);
        Check.due("full of others, capacity 2: assign(1, 1)", x.assign(1, 1), FULL);
    }

    /** Promise 9: a post that its applicant leaves has room again. */
    private static void aPostIsLeftForAnother() {
        PopularMatchings x = Check.listing(new PopularMatchings(), "01", "01");
        x.assign(0, 0);
        Check.due("assign(1, 0)", x.assign(1, 0), FULL);
        Check.due("for another post: assign(0, 1)", x.assign(0, 1), 0);
        Check.due("assign(1, 0)", x.assign(1, 0), -1);
        Check.due("for NONE: assign(1, NONE)", x.assign(1, -1), 0);
        Check.due("assign(0, 0)", x.assign(0, 0), 1);
        Check.posts("left", x, 0, -1, -1, -1);
    }

    /** Matchings: "The size of a matching is the number of applicants who do not have NONE." */
    private static void sizesFromNoneToAll() {
        PopularMatchings x = Check.withReset(6, 5, "0", "0", "1", "2", "3", "4");
        x.setCapacity(0, 2);
        for (int a = 0; a < 6; a++) {
            Check.due("size()", x.size(), a);
            Check.due("save()", x.save(), a);
            x.assign(a, Math.max(a - 1, 0));
        }
        Check.due("all: size()", x.size(), 6);
        Check.due("all: save()", x.save(), 6);
        Check.due("all: swapSaved()", x.swapSaved(), 6);
        x.assign(0, -1);
        Check.due("but applicant 0: size()", x.size(), 5);
        x.assign(5, -1);
        Check.due("but applicants 0 and 5: size()", x.size(), 4);
        Check.due("swapSaved()", x.swapSaved(), 6);
        Check.due("swapSaved()", x.swapSaved(), 4);
    }

    /** Matchings: "no post is given to more applicants than its capacity". */
    private static void allPlacesTaken() {
        PopularMatchings x = Check.withReset(6, 5, "01234", "01234", "01234", "01234", "01234", "01234");
        for (int a = 0; a < 5; a++) {
            Check.due("assign", x.assign(a, a), -1);
        }
        for (int post = 0; post < 5; post++) {
            Check.due("no place left: assign(5, " + post + ")", x.assign(5, post), FULL);
        }
        Check.due("no place left: assign(5, NONE)", x.assign(5, -1), -1);
        Check.due("no place left: size()", x.size(), 5);
        Check.due("no place left: isParetoOptimal()", x.isParetoOptimal(), 1);
    }

    /** The same of the matchings that the program makes itself. */
    private static void searchesKeepToTheCapacities() {
        for (int capacity = 1; capacity <= 2; capacity++) {
            PopularMatchings x = Check.withReset(6, 1, "0", "0", "0", "0", "0", "0");
            x.setCapacity(0, capacity);
            Check.due("unpopularityMargin()", x.unpopularityMargin(), capacity);
            for (int a = 0; a < 6; a++) {
                Check.due("challengerPost(" + a + ")", x.challengerPost(a), a < capacity ? 0 : -1);
            }
            Check.due("adoptChallenger()", x.adoptChallenger(), capacity);
            Check.due("adoptChallenger(): size()", x.size(), capacity);
            Check.due("adoptSerial(5)", x.adoptSerial(5), capacity);
            Check.due("greatestPopularSize()", x.greatestPopularSize(), capacity);
            Check.due("adoptPopular(0)", x.adoptPopular(0), capacity);
            Check.due("popularCount()", x.popularCount(), capacity == 1 ? 6 : 15);
            Check.due("the last: adoptPopular", x.adoptPopular(capacity == 1 ? 5 : 14), capacity);
            Check.due("beyond it: adoptPopular", x.adoptPopular(capacity == 1 ? 6 : 15), -104);
        }
    }

    /** Promise 22: "each takes the most preferred post of the list that still has room, or NONE". */
    private static void serialChoiceWithoutRoom() {
        PopularMatchings x = Check.withReset(6, 5, "01234", "01234", "01234", "01234", "01234", "01234");
        Check.due("adoptSerial(0)", x.adoptSerial(0), 5);
        Check.posts("the sixth finds no room", x, 0, 1, 2, 3, 4, -1);
        x.setCapacity(0, 2);
        Check.due("capacity 2: adoptSerial(0)", x.adoptSerial(0), 6);
        Check.posts("capacity 2", x, 0, 0, 1, 2, 3, 4);
        Check.due("what the present matching holds takes no room: adoptSerial(5)", x.adoptSerial(5), 6);
        Check.posts("what the present matching holds takes no room", x, 0, 1, 2, 3, 4, 0);
    }

    /** Promise 22: "beginning with a given one and going on to the next number (after the last one to 0)". */
    private static void serialChoiceGoesRound() {
        for (int n = 1; n <= 6; n++) {
            for (int first = 0; first < n; first++) {
                String[] lists = new String[n];
                java.util.Arrays.fill(lists, "01234");
                PopularMatchings x = Check.withReset(n, 5, lists);
                Check.due("N = " + n + ": adoptSerial(" + first + ")", x.adoptSerial(first), Math.min(n, 5));
                for (int a = 0; a < n; a++) {
                    int turn = (a - first + n) % n;
                    Check.due("N = " + n + ", first " + first + ": postOf(" + a + ")", x.postOf(a), turn < 5 ? turn : -1);
                }
            }
        }
    }

    /** Instance: the least numbers, N = 1 and P = 1. */
    private static void oneApplicantOnePost() {
        PopularMatchings x = new PopularMatchings();
        Check.due("reset(1, 1)", x.reset(1, 1), 4);
        Check.due("appendPreference(0, 0)", x.appendPreference(0, 0), 1);
        Check.due("secondPost(0)", x.secondPost(0), -1);
        Check.due("isParetoOptimal()", x.isParetoOptimal(), 0);
        Check.due("challengerPost(0)", x.challengerPost(0), 0);
        Check.due("adoptSerial(0)", x.adoptSerial(0), 1);
        Check.due("marginOverSaved()", x.marginOverSaved(), 1);
        Check.due("unpopularityMargin()", x.unpopularityMargin(), 0);
        Check.due("isParetoOptimal()", x.isParetoOptimal(), 1);
        Check.due("popularCount()", x.popularCount(), 1);
        Check.due("greatestPopularSize()", x.greatestPopularSize(), 1);
        Check.due("undo()", x.undo(), 0);
        Check.due("postOf(0)", x.postOf(0), -1);
    }

    /** What it is: "An object is used for at most 512 calls after it has been made", the 512th among them. */
    private static void the512thCall() {
        PopularMatchings edited = new PopularMatchings();
        edited.appendPreference(0, 0);
        for (int call = 2; call <= 511; call++) {
            Check.due("call " + call, edited.assign(0, call % 2 - 1), call == 2 ? -1 : -(call % 2));
        }
        Check.due("call 512: undo()", edited.undo(), 4);
        PopularMatchings filled = new PopularMatchings();
        for (int call = 1; call <= 511; call += 4) {
            for (int post = 0; post < 3; post++) {
                Check.due("call " + (call + post), filled.appendPreference(3, post), post + 1);
            }
            Check.due("call " + (call + 3), filled.clearPreferences(3), 3);
        }
        PopularMatchings counted = new PopularMatchings();
        for (int call = 1; call <= 512; call++) {
            Check.due("call " + call, counted.popularCount(), 1);
        }
    }
}
