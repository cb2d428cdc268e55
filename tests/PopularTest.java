/** Promises 19 to 21: popular matchings counted and listed. */
final class PopularTest {
    private static final int BAD = -101;

    public static void main(String[] args) {
        none();
        several();
        sizesDiffer();
        capacityOfTwo();
        emptyLists();
        mostOfAll();
        adoptPopularRefused();
        Check.end("PopularTest");
    }

    private static void none() {
        PopularMatchings x = Check.withReset(3, 3, "012", "012", "012");
        Check.due("none: popularCount()", x.popularCount(), 0);
        Check.due("none: greatestPopularSize()", x.greatestPopularSize(), -104);
        Check.due("none: adoptPopular(0)", x.adoptPopular(0), -104);
        Check.due("none: adoptPopular(-1)", x.adoptPopular(-1), BAD);
        Check.due("none: undo()", x.undo(), -104);
    }

    private static void several() {
        PopularMatchings x = Check.listing(new PopularMatchings(), "01", "012", "10", "20");
        Check.due("several: popularCount()", x.popularCount(), 2);
        Check.due("several: greatestPopularSize()", x.greatestPopularSize(), 3);
        Check.due("several: adoptPopular(0)", x.adoptPopular(0), 3);
        Check.posts("adoptPopular(0)", x, 0, -1, 1, 2);
        Check.due("several: adoptPopular(1)", x.adoptPopular(1), 3);
        Check.posts("adoptPopular(1)", x, -1, 0, 1, 2);
        Check.due("several: adoptPopular(2)", x.adoptPopular(2), -104);
        Check.due("edits: undo()", x.undo(), 1);
        Check.posts("undo", x, 0, -1, 1, 2);
        Check.due("several: popularCount()", x.popularCount(), 2);
        Check.posts("counting changes nothing", x, 0, -1, 1, 2);
        Check.due("several: greatestPopularSize()", x.greatestPopularSize(), 3);
        Check.posts("the size changes nothing", x, 0, -1, 1, 2);
    }

    private static void sizesDiffer() {
        PopularMatchings x = Check.withReset(2, 2, "0", "01");
        Check.due("sizes: popularCount()", x.popularCount(), 2);
        Check.due("sizes: greatestPopularSize()", x.greatestPopularSize(), 2);
        Check.due("sizes: adoptPopular(0)", x.adoptPopular(0), 2);
        Check.posts("adoptPopular(0)", x, 0, 1);
        Check.due("sizes: adoptPopular(1)", x.adoptPopular(1), 1);
        Check.posts("adoptPopular(1)", x, -1, 0);
        Check.due("sizes: unpopularityMargin()", x.unpopularityMargin(), 0);
        PopularMatchings y = Check.withReset(2, 2, "01", "0");
        Check.due("the greater one last: adoptPopular(0)", y.adoptPopular(0), 1);
        Check.posts("the greater one last", y, 0, -1);
        Check.due("the greater one last: adoptPopular(1)", y.adoptPopular(1), 2);
        Check.posts("the greater one last", y, 1, 0);
        Check.due("the greater one last: greatestPopularSize()", y.greatestPopularSize(), 2);
    }

    private static void capacityOfTwo() {
        PopularMatchings x = Check.withReset(3, 3, "012", "012", "012");
        x.setCapacity(0, 2);
        int[][] want = {{0, 0, 1}, {0, 1, 0}, {1, 0, 0}};
        Check.due("capacity 2: popularCount()", x.popularCount(), 3);
        for (int index = 0; index < 3; index++) {
            Check.due("capacity 2: adoptPopular(" + index + ")", x.adoptPopular(index), 3);
            Check.posts("capacity 2: adoptPopular(" + index + ")", x, want[index]);
        }
        PopularMatchings y = Check.withReset(3, 2, "01", "1", "1");
        y.setCapacity(0, 2);
        Check.due("a first post with room to spare: popularCount()", y.popularCount(), 2);
        y.adoptPopular(1);
        Check.posts("a first post with room to spare", y, 0, -1, 1);
        PopularMatchings z = Check.withReset(4, 2, "10", "10", "10", "0");
        z.setCapacity(0, 2);
        Check.due("one place beside the first: popularCount()", z.popularCount(), 0);
        z.setCapacity(1, 2);
        Check.due("one place beside the first: popularCount()", z.popularCount(), 3);
        z.adoptPopular(2);
        Check.posts("one place beside the first", z, 1, 1, 0, 0);
    }

    private static void emptyLists() {
        PopularMatchings x = new PopularMatchings();
        Check.due("empty: popularCount()", x.popularCount(), 1);
        Check.due("empty: greatestPopularSize()", x.greatestPopularSize(), 0);
        Check.due("empty: adoptPopular(0)", x.adoptPopular(0), 0);
        Check.due("empty: adoptPopular(1)", x.adoptPopular(1), -104);
        Check.due("empty, an edit all the same: undo()", x.undo(), 0);
        Check.listing(x, "", "2");
        Check.due("one list: popularCount()", x.popularCount(), 1);
        Check.due("one list: adoptPopular(0)", x.adoptPopular(0), 1);
        Check.posts("one list", x, -1, 2, -1, -1);
    }

    private static void mostOfAll() {
        PopularMatchings x = Check.withReset(6, 1, "0", "0", "0", "0", "0", "0");
        Check.due("one post: popularCount()", x.popularCount(), 6);
        x.setCapacity(0, 2);
        Check.due("two places: popularCount()", x.popularCount(), 15);
        Check.due("two places: greatestPopularSize()", x.greatestPopularSize(), 2);
        Check.due("two places: adoptPopular(0)", x.adoptPopular(0), 2);
        Check.posts("two places, the least", x, 0, 0, -1, -1, -1, -1);
        Check.due("two places: adoptPopular(14)", x.adoptPopular(14), 2);
        Check.posts("two places, the last", x, -1, -1, -1, -1, 0, 0);
        Check.due("two places: adoptPopular(15)", x.adoptPopular(15), -104);
        PopularMatchings y = Check.withReset(6, 3, "0", "0", "1", "1", "2", "2");
        Check.due("three pairs: popularCount()", y.popularCount(), 8);
        y.adoptPopular(3);
        Check.posts("three pairs", y, 0, -1, -1, 1, -1, 2);
    }

    private static void adoptPopularRefused() {
        PopularMatchings x = Check.withReset(2, 2, "0", "01");
        x.assign(1, 1);
        Check.due("adoptPopular(-1)", x.adoptPopular(-1), BAD);
        Check.due("adoptPopular(MIN)", x.adoptPopular(Integer.MIN_VALUE), BAD);
        Check.due("adoptPopular(2)", x.adoptPopular(2), -104);
        Check.due("adoptPopular(64)", x.adoptPopular(64), -104);
        Check.due("adoptPopular(MAX)", x.adoptPopular(Integer.MAX_VALUE), -104);
        Check.posts("adoptPopular refused", x, -1, 1);
        Check.due("refused calls are no edits: undo()", x.undo(), 0);
    }
}
