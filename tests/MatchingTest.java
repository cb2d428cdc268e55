/** Promises 9 to 12 and 22: the present matching, and the serial choice. */
final class MatchingTest {
    private static final int BAD = -101;

    public static void main(String[] args) {
        assign();
        assignRefused();
        assignErrorsInTheirOrder();
        postOfAndSize();
        isParetoOptimal();
        adoptSerial();
        adoptSerialRefused();
        Check.end("MatchingTest");
    }

    private static void assign() {
        PopularMatchings x = Check.listing(new PopularMatchings(), "012", "10", "0", "2");
        Check.due("assign(0, 0)", x.assign(0, 0), -1);
        Check.due("its own post again: assign(0, 0)", x.assign(0, 0), 0);
        Check.due("assign(0, 2)", x.assign(0, 2), 0);
        Check.due("assign(2, 0)", x.assign(2, 0), -1);
        Check.due("assign(0, -1)", x.assign(0, -1), 2);
        Check.due("NONE again: assign(0, -1)", x.assign(0, -1), -1);
        Check.posts("assign", x, -1, -1, 0, -1);
        Check.due("a sixth edit: undo()", x.undo(), 4);
        Check.due("undo()", x.undo(), 3);
        Check.posts("undo", x, 2, -1, 0, -1);
        x.setCapacity(0, 2);
        Check.due("assign(0, 0)", x.assign(0, 0), -1);
        Check.due("assign(1, 0)", x.assign(1, 0), -1);
        Check.due("full: assign(2, 0)", x.assign(2, 0), -103);
        Check.due("full of the applicant too: assign(1, 0)", x.assign(1, 0), 0);
        Check.due("assign(0, 1)", x.assign(0, 1), 0);
        Check.due("room again: assign(2, 0)", x.assign(2, 0), -1);
        Check.posts("two at a post", x, 1, 0, 0, -1);
    }

    private static void assignRefused() {
        PopularMatchings x = Check.listing(new PopularMatchings(), "012", "10", "", "0");
        x.assign(1, 0);
        int[][] wrong = {{-1, 0}, {4, 0}, {0, -2}, {0, 3}, {0, 5}, {4, -1}, {Integer.MIN_VALUE, 0},
            {Integer.MAX_VALUE, 0}, {0, Integer.MIN_VALUE}, {0, Integer.MAX_VALUE}};
        for (int[] w : wrong) {
            Check.due("assign(" + w[0] + ", " + w[1] + ")", x.assign(w[0], w[1]), BAD);
        }
        Check.due("not listed: assign(1, 2)", x.assign(1, 2), -102);
        Check.due("not listed: assign(2, 1)", x.assign(2, 1), -102);
        Check.due("full: assign(3, 0)", x.assign(3, 0), -103);
        Check.posts("assign refused", x, -1, 0, -1, -1);
        Check.due("refused calls are no edits: undo()", x.undo(), 0);
        Check.due("refused calls are no edits: undo()", x.undo(), -104);
    }

    private static void assignErrorsInTheirOrder() {
        PopularMatchings x = Check.listing(new PopularMatchings(), "0", "1");
        x.assign(0, 0);
        Check.due("not listed and full: assign(1, 0)", x.assign(1, 0), -102);
        Check.due("no such applicant, full: assign(4, 0)", x.assign(4, 0), BAD);
        Check.due("no such post, not listed: assign(1, 3)", x.assign(1, 3), BAD);
    }

    private static void postOfAndSize() {
        PopularMatchings x = Check.withReset(6, 5, "0", "1", "2", "3", "4", "0");
        for (int applicant = 0; applicant < 5; applicant++) {
            Check.due("size()", x.size(), applicant);
            Check.due("assign", x.assign(applicant, applicant), -1);
        }
        Check.posts("postOf", x, 0, 1, 2, 3, 4, -1, BAD);
        Check.due("size()", x.size(), 5);
        Check.due("postOf(-1)", x.postOf(-1), BAD);
        Check.due("postOf(MIN)", x.postOf(Integer.MIN_VALUE), BAD);
        Check.due("postOf(MAX)", x.postOf(Integer.MAX_VALUE), BAD);
        x.assign(2, -1);
        Check.due("size()", x.size(), 4);
    }

    private static void isParetoOptimal() {
        PopularMatchings x = Check.withReset(3, 3, "01", "10", "2");
        Check.due("all NONE: isParetoOptimal()", x.isParetoOptimal(), 0);
        x.assign(0, 1);
        x.assign(1, 0);
        x.assign(2, 2);
        Check.due("two could swap: isParetoOptimal()", x.isParetoOptimal(), 0);
        x.assign(1, -1);
        x.assign(0, 0);
        x.assign(1, 1);
        Check.due("all first: isParetoOptimal()", x.isParetoOptimal(), 1);
        x.assign(2, -1);
        Check.due("one could have a post: isParetoOptimal()", x.isParetoOptimal(), 0);

        PopularMatchings y = Check.withReset(3, 2, "01", "01", "01");
        y.adoptSerial(2);
        Check.due("optimal, not popular: isParetoOptimal()", y.isParetoOptimal(), 1);
        Check.due("optimal, not popular: unpopularityMargin()", y.unpopularityMargin(), 1);
        Check.due("nothing changed: undo()", y.undo(), 0);

        PopularMatchings z = Check.withReset(3, 3, "01", "12", "20");
        z.assign(0, 1);
        z.assign(1, 2);
        z.assign(2, 0);
        Check.due("three could move round: isParetoOptimal()", z.isParetoOptimal(), 0);
        z.reset(1, 1);
        Check.due("no list: isParetoOptimal()", z.isParetoOptimal(), 1);

        PopularMatchings two = Check.withReset(3, 2, "0", "10", "01");
        two.setCapacity(0, 2);
        two.assign(1, 0);
        two.assign(2, 0);
        Check.due("one can make room: isParetoOptimal()", two.isParetoOptimal(), 0);
        two.assign(1, 1);
        two.assign(0, 0);
        Check.due("all first: isParetoOptimal()", two.isParetoOptimal(), 1);
    }

    private static void adoptSerial() {
        PopularMatchings x = Check.withReset(6, 5, "01", "01", "012", "", "23", "2");
        Check.due("adoptSerial(0)", x.adoptSerial(0), 4);
        Check.posts("adoptSerial(0)", x, 0, 1, 2, -1, 3, -1);
        Check.due("adoptSerial(2)", x.adoptSerial(2), 3);
        Check.posts("adoptSerial(2)", x, 1, -1, 0, -1, 2, -1);
        Check.due("adoptSerial(5)", x.adoptSerial(5), 4);
        Check.posts("adoptSerial(5)", x, 0, 1, -1, -1, 3, 2);
        Check.due("adoptSerial(1)", x.adoptSerial(1), 3);
        Check.posts("adoptSerial(1)", x, -1, 0, 1, -1, 2, -1);
        Check.due("an edit: undo()", x.undo(), 3);
        Check.posts("undo", x, 0, 1, -1, -1, 3, 2);
        x.setCapacity(0, 2);
        Check.due("capacity 2: adoptSerial(1)", x.adoptSerial(1), 4);
        Check.posts("capacity 2: adoptSerial(1)", x, 1, 0, 0, -1, 2, -1);
    }

    private static void adoptSerialRefused() {
        PopularMatchings x = Check.listing(new PopularMatchings(), "0", "1");
        x.assign(0, 0);
        for (int first : new int[] {-1, 4, 6, Integer.MIN_VALUE, Integer.MAX_VALUE}) {
            Check.due("adoptSerial(" + first + ")", x.adoptSerial(first), BAD);
        }
        Check.posts("adoptSerial refused", x, 0, -1, -1, -1);
        Check.due("refused calls are no edits: undo()", x.undo(), 0);
    }
}
