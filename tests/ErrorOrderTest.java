/**
 * Which error goes first where several apply: "INVALID_ARGUMENT is returned rather than
 * INVALID_STATE, INVALID_STATE rather than LIMIT_REACHED, and LIMIT_REACHED rather than
 * NOT_FOUND". No method can return both of the last two.
 */
final class ErrorOrderTest {
    private static final int INVALID_ARGUMENT = -101;
    private static final int INVALID_STATE = -102;
    private static final int LIMIT_REACHED = -103;
    private static final int NOT_FOUND = -104;
    private static final int MIN = Integer.MIN_VALUE;
    private static final int MAX = Integer.MAX_VALUE;

    public static void main(String[] args) {
        argumentBeforeStateInAppend();
        argumentBeforeStateInAssign();
        argumentBeforeLimitInAssign();
        stateBeforeLimitInAssign();
        argumentBeforeNotFoundInPreferenceAt();
        argumentBeforeNotFoundInAdoptPopular();
        bothArgumentsOutOfRange();
        eachErrorAlone();
        Check.end("ErrorOrderTest");
    }

    /** Promise 4: the post is in the list already, or in every list, and the other argument is out of range. */
    private static void argumentBeforeStateInAppend() {
        PopularMatchings x = Check.withReset(3, 3, "012", "120", "201");
        for (int a : new int[] {MIN, -1, 3, 4, 6, MAX}) {
            for (int post = -1; post <= 3; post++) {
                Check.due("appendPreference(" + a + ", " + post + ")", x.appendPreference(a, post), INVALID_ARGUMENT);
            }
        }
        for (int post : new int[] {MIN, -1, 3, 4, 5, MAX}) {
            Check.due("to a full list: appendPreference(0, " + post + ")", x.appendPreference(0, post), INVALID_ARGUMENT);
        }
        Check.due("appendPreference(0, 2)", x.appendPreference(0, 2), INVALID_STATE);
    }

    /** Promise 9: a post that does not exist is in no list either. */
    private static void argumentBeforeStateInAssign() {
        PopularMatchings x = Check.withReset(2, 2, "0", "");
        for (int post : new int[] {MIN, -2, 2, 3, 5, MAX}) {
            Check.due("assign(0, " + post + ")", x.assign(0, post), INVALID_ARGUMENT);
            Check.due("with an empty list: assign(1, " + post + ")", x.assign(1, post), INVALID_ARGUMENT);
        }
        for (int a : new int[] {MIN, -1, 2, 3, 6, MAX}) {
            Check.due("assign(" + a + ", 1), a post in no list", x.assign(a, 1), INVALID_ARGUMENT);
        }
        Check.due("assign(0, 1)", x.assign(0, 1), INVALID_STATE);
    }

    /** Promise 9: no such applicant, and the post is full. */
    private static void argumentBeforeLimitInAssign() {
        PopularMatchings x = Check.withReset(2, 1, "0", "0");
        x.assign(0, 0);
        for (int a : new int[] {MIN, -1, 2, 3, 6, MAX}) {
            Check.due("full: assign(" + a + ", 0)", x.assign(a, 0), INVALID_ARGUMENT);
        }
        Check.due("full: assign(1, 0)", x.assign(1, 0), LIMIT_REACHED);
    }

    /** Promise 9: the post is full, and not in the applicant's list. */
    private static void stateBeforeLimitInAssign() {
        PopularMatchings x = Check.withReset(4, 2, "0", "0", "1", "");
        x.assign(0, 0);
        Check.due("full, capacity 1: assign(2, 0)", x.assign(2, 0), INVALID_STATE);
        Check.due("full, capacity 1: assign(3, 0)", x.assign(3, 0), INVALID_STATE);
        Check.due("full, capacity 1: assign(1, 0)", x.assign(1, 0), LIMIT_REACHED);
        x.setCapacity(0, 2);
        x.assign(0, 0);
        x.assign(1, 0);
        Check.due("full, capacity 2: assign(2, 0)", x.assign(2, 0), INVALID_STATE);
        Check.due("full, capacity 2: assign(3, 0)", x.assign(3, 0), INVALID_STATE);
    }

    /** Promise 6: no such applicant, or a negative index, and a list that is not so long. */
    private static void argumentBeforeNotFoundInPreferenceAt() {
        PopularMatchings x = Check.withReset(2, 2, "01", "");
        for (int a : new int[] {MIN, -1, 2, 3, 6, MAX}) {
            for (int index : new int[] {MIN, -1, 0, 1, 2, 5, MAX}) {
                Check.due("preferenceAt(" + a + ", " + index + ")", x.preferenceAt(a, index), INVALID_ARGUMENT);
            }
        }
        Check.due("of an empty list: preferenceAt(1, -1)", x.preferenceAt(1, -1), INVALID_ARGUMENT);
        Check.due("of an empty list: preferenceAt(1, MIN)", x.preferenceAt(1, MIN), INVALID_ARGUMENT);
        Check.due("of an empty list: preferenceAt(1, 0)", x.preferenceAt(1, 0), NOT_FOUND);
    }

    /** Promise 21: a negative index, and no popular matching at all. */
    private static void argumentBeforeNotFoundInAdoptPopular() {
        PopularMatchings x = Check.withReset(3, 2, "01", "01", "01");
        Check.due("adoptPopular(-1)", x.adoptPopular(-1), INVALID_ARGUMENT);
        Check.due("adoptPopular(MIN)", x.adoptPopular(MIN), INVALID_ARGUMENT);
        Check.due("adoptPopular(0)", x.adoptPopular(0), NOT_FOUND);
    }

    /** Two arguments out of range are one error. */
    private static void bothArgumentsOutOfRange() {
        PopularMatchings x = new PopularMatchings();
        Check.due("reset(0, 0)", x.reset(0, 0), INVALID_ARGUMENT);
        Check.due("reset(7, 6)", x.reset(7, 6), INVALID_ARGUMENT);
        Check.due("setCapacity(3, 0)", x.setCapacity(3, 0), INVALID_ARGUMENT);
        Check.due("setCapacity(-1, 3)", x.setCapacity(-1, 3), INVALID_ARGUMENT);
        Check.due("appendPreference(4, 3)", x.appendPreference(4, 3), INVALID_ARGUMENT);
        Check.due("appendPreference(-1, -1)", x.appendPreference(-1, -1), INVALID_ARGUMENT);
        Check.due("preferenceAt(4, -1)", x.preferenceAt(4, -1), INVALID_ARGUMENT);
        Check.due("assign(4, 3)", x.assign(4, 3), INVALID_ARGUMENT);
        Check.due("assign(-1, -2)", x.assign(-1, -2), INVALID_ARGUMENT);
    }

    /** The constants by their names, each where it alone applies. */
    private static void eachErrorAlone() {
        PopularMatchings x = Check.withReset(2, 2, "0", "0");
        Check.due("no such applicant: postOf(2)", x.postOf(2), PopularMatchings.INVALID_ARGUMENT);
        Check.due("listed: appendPreference(0, 0)", x.appendPreference(0, 0), PopularMatchings.INVALID_STATE);
        Check.due("not listed: assign(0, 1)", x.assign(0, 1), PopularMatchings.INVALID_STATE);
        Check.due("assign(0, 0)", x.assign(0, 0), PopularMatchings.NONE);
        Check.due("full: assign(1, 0)", x.assign(1, 0), PopularMatchings.LIMIT_REACHED);
        Check.due("not so long: preferenceAt(0, 1)", x.preferenceAt(0, 1), PopularMatchings.NOT_FOUND);
    }
}
