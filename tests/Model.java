import java.util.ArrayDeque;
import java.util.ArrayList;
import java.util.Arrays;
import java.util.Deque;
import java.util.List;

/**
 * The document's words taken at their plainest: all matchings are listed in their order, and
 * margins, popularity and Pareto optimality are told by comparing a matching with every other one.
 */
final class Model {
    static final int INVALID_ARGUMENT = -101;
    static final int INVALID_STATE = -102;
    static final int LIMIT_REACHED = -103;
    static final int NOT_FOUND = -104;
    static final int NONE = -1;

    private int n = 4;
    private int p = 3;
    private int[] capacity = {1, 1, 1};
    private List<List<Integer>> lists = emptyLists(4);
    private int[] present = noPosts(4);
    private int[] saved = noPosts(4);
    private final Deque<int[][]> edits = new ArrayDeque<>();
    private List<int[]> all = null;
    private List<int[]> popular = null;

    private static List<List<Integer>> emptyLists(int n) {
        List<List<Integer>> lists = new ArrayList<>();
        for (int i = 0; i < n; i++) {
            lists.add(new ArrayList<>());
        }
        return lists;
    }

    private static int[] noPosts(int n) {
        int[] posts = new int[n];
        Arrays.fill(posts, NONE);
        return posts;
    }

    private void instanceChanged() {
        present = noPosts(n);
        saved = noPosts(n);
        edits.clear();
        all = null;
        popular = null;
    }

    private void edit(int[] newPresent, int[] newSaved) {
        edits.addLast(new int[][] {present, saved});
        if (edits.size() > 5) {
            edits.removeFirst();
        }
        present = newPresent;
        saved = newSaved;
    }

    private boolean noApplicant(int a) {
        return a < 0 || a >= n;
    }

    private boolean noPost(int post) {
        return post < 0 || post >= p;
    }

    static int sizeOf(int[] m) {
        return (int) Arrays.stream(m).filter(post -> post != NONE).count();
    }

    /** All matchings, the least one first. */
    List<int[]> all() {
        if (all == null) {
            all = new ArrayList<>();
            extend(new int[n], 0);
        }
        return all;
    }

    private void extend(int[] m, int a) {
        if (a == n) {
            all.add(m.clone());
            return;
        }
        for (int post = 0; post < p; post++) {
            int at = post;
            long others = Arrays.stream(m, 0, a).filter(q -> q == at).count();
            if (lists.get(a).contains(post) && others < capacity[post]) {
                m[a] = post;
                extend(m, a + 1);
            }
        }
        m[a] = NONE;
        extend(m, a + 1);
    }

    private int wish(int a, int post) {
        return post == NONE ? 99 : lists.get(a).indexOf(post);
    }

    /** The margin of the one matching over the other. */
    int margin(int[] one, int[] other) {
        int votes = 0;
        for (int a = 0; a < n; a++) {
            if (one[a] != other[a]) {
                votes += wish(a, one[a]) < wish(a, other[a]) ? 1 : -1;
            }
        }
        return votes;
    }

    private boolean improves(int[] one, int[] other) {
        boolean better = false;
        for (int a = 0; a < n; a++) {
            if (wish(a, one[a]) > wish(a, other[a])) {
                return false;
            }
            better |= one[a] != other[a];
        }
        return better;
    }

    /** The first matching with the greatest margin. */
    private int[] challenger(int[] m) {
        int[] best = null;
        for (int[] one : all()) {
            if (best == null || margin(one, m) > margin(best, m)) {
                best = one;
            }
        }
        return best;
    }

    List<int[]> popular() {
        if (popular == null) {
            popular = new ArrayList<>();
            List<int[]> beaters = new ArrayList<>();
            for (int[] m : all()) {
                if (!isBeaten(m, beaters) && !isBeatenByAny(m, beaters)) {
                    popular.add(m);
                }
            }
        }
        return popular;
    }

    /** Those that have beaten others before are tried first, for speed alone. */
    private boolean isBeaten(int[] m, List<int[]> beaters) {
        for (int i = beaters.size() - 1; i >= 0; i--) {
            if (margin(beaters.get(i), m) > 0) {
                beaters.add(beaters.remove(i));
                return true;
            }
        }
        return false;
    }

    private boolean isBeatenByAny(int[] m, List<int[]> beaters) {
        for (int[] one : all()) {
            if (margin(one, m) > 0) {
                beaters.add(one);
                return true;
            }
        }
        return false;
    }

    int reset(int applicants, int posts) {
        if (applicants < 1 || applicants > 6 || posts < 1 || posts > 5) {
            return INVALID_ARGUMENT;
        }
        int before = n;
        n = applicants;
        p = posts;
        capacity = new int[p];
        Arrays.fill(capacity, 1);
        lists = emptyLists(n);
        instanceChanged();
        return before;
    }

    int setCapacity(int post, int to) {
        if (noPost(post) || to < 1 || to > 2) {
            return INVALID_ARGUMENT;
        }
        int before = capacity[post];
        capacity[post] = to;
        instanceChanged();
        return before;
    }

    int appendPreference(int a, int post) {
        if (noApplicant(a) || noPost(post)) {
            return INVALID_ARGUMENT;
        }
        if (lists.get(a).contains(post)) {
            return INVALID_STATE;
        }
        lists.get(a).add(post);
        instanceChanged();
        return lists.get(a).size();
    }

    int clearPreferences(int a) {
        if (noApplicant(a)) {
            return INVALID_ARGUMENT;
        }
        int before = lists.get(a).size();
        lists.get(a).clear();
        instanceChanged();
        return before;
    }

    int preferenceAt(int a, int index) {
        if (noApplicant(a) || index < 0) {
            return INVALID_ARGUMENT;
        }
        return index < lists.get(a).size() ? lists.get(a).get(index) : NOT_FOUND;
    }

    int firstPost(int a) {
        if (noApplicant(a)) {
            return INVALID_ARGUMENT;
        }
        return lists.get(a).isEmpty() ? NONE : lists.get(a).get(0);
    }

    int secondPost(int a) {
        if (noApplicant(a)) {
            return INVALID_ARGUMENT;
        }
        int[] f = new int[p];
        for (List<Integer> list : lists) {
            if (!list.isEmpty()) {
                f[list.get(0)]++;
            }
        }
        for (int post : lists.get(a)) {
            if (post != firstPost(a) && f[post] < capacity[post]) {
                return post;
            }
        }
        return NONE;
    }

    int assign(int a, int post) {
        if (noApplicant(a) || (post != NONE && noPost(post))) {
            return INVALID_ARGUMENT;
        }
        if (post != NONE && !lists.get(a).contains(post)) {
            return INVALID_STATE;
        }
        int[] next = present.clone();
        next[a] = post;
        if (post != NONE && Arrays.stream(next).filter(q -> q == post).count() > capacity[post]) {
            return LIMIT_REACHED;
        }
        int before = present[a];
        edit(next, saved);
        return before;
    }

    int postOf(int a) {
        return noApplicant(a) ? INVALID_ARGUMENT : present[a];
    }

    int size() {
        return sizeOf(present);
    }

    int isParetoOptimal() {
        for (int[] one : all()) {
            if (improves(one, present)) {
                return 0;
            }
        }
        return 1;
    }

    int save() {
        saved = present;
        return sizeOf(saved);
    }

    int swapSaved() {
        edit(saved, present);
        return sizeOf(present);
    }

    int marginOverSaved() {
        return margin(present, saved);
    }

    int unpopularityMargin() {
        return margin(challenger(present), present);
    }

    int challengerPost(int a) {
        return noApplicant(a) ? INVALID_ARGUMENT : challenger(present)[a];
    }

    int adoptChallenger() {
        int before = unpopularityMargin();
        edit(challenger(present), saved);
        return before;
    }

    int popularCount() {
        return popular().size();
    }

    int greatestPopularSize() {
        return popular().stream().mapToInt(Model::sizeOf).max().orElse(NOT_FOUND);
    }

    int adoptPopular(int index) {
        if (index < 0) {
            return INVALID_ARGUMENT;
        }
        if (index >= popular().size()) {
            return NOT_FOUND;
        }
        edit(popular().get(index), saved);
        return sizeOf(present);
    }

    int adoptSerial(int first) {
        if (noApplicant(first)) {
            return INVALID_ARGUMENT;
        }
        int[] next = noPosts(n);
        for (int turn = 0; turn < n; turn++) {
            int a = (first + turn) % n;
            for (int post : lists.get(a)) {
                if (next[a] == NONE && Arrays.stream(next).filter(q -> q == post).count() < capacity[post]) {
                    next[a] = post;
                }
            }
        }
        edit(next, saved);
        return sizeOf(present);
    }

    int undo() {
        if (edits.isEmpty()) {
            return NOT_FOUND;
        }
        int[][] before = edits.removeLast();
        present = before[0];
        saved = before[1];
        return edits.size();
    }
}
