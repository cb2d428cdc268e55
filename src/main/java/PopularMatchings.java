/**
 * A workbench for popular matchings of applicants to posts with capacities.
 * What each method promises stands in the project's document; all objects are made
 * in the constructors, so that no later call makes any.
 */
public final class PopularMatchings {
    public static final int INVALID_ARGUMENT = -101;
    public static final int INVALID_STATE = -102;
    public static final int LIMIT_REACHED = -103;
    public static final int NOT_FOUND = -104;
    public static final int NONE = -1;

    private static final int INITIAL_APPLICANTS = 4;
    private static final int INITIAL_POSTS = 3;
    private static final int MOST_APPLICANTS = 6;
    private static final int MOST_POSTS = 5;
    private static final int MOST_CAPACITY = 2;
    private static final int MOST_UNDOS = 5;

    private final Instance instance;
    private final Matching present;
    private final Matching saved;
    private final Matching draft;
    private final History history;
    private final ChallengerSearch challengers;
    private final PopularSearch populars;

    public PopularMatchings() {
        instance = new Instance();
        present = new Matching();
        saved = new Matching();
        draft = new Matching();
        history = new History();
        challengers = new ChallengerSearch();
        populars = new PopularSearch();
    }

    public int reset(int applicants, int posts) {
        boolean inRange = applicants >= 1 && applicants <= MOST_APPLICANTS
                && posts >= 1 && posts <= MOST_POSTS;
        if (!inRange) {
            return INVALID_ARGUMENT;
        }
        int before = instance.applicants;
        instance.startAnew(applicants, posts);
        forgetMatchings();
        return before;
    }

    public int setCapacity(int post, int capacity) {
        if (!instance.isPost(post) || capacity < 1 || capacity > MOST_CAPACITY) {
            return INVALID_ARGUMENT;
        }
        int before = instance.capacities[post];
        instance.capacities[post] = capacity;
        forgetMatchings();
        return before;
    }

    public int appendPreference(int applicant, int post) {
        if (!instance.isApplicant(applicant) || !instance.isPost(post)) {
            return INVALID_ARGUMENT;
        }
        if (instance.isListed(applicant, post)) {
            return INVALID_STATE;
        }
        int length = instance.append(applicant, post);
        forgetMatchings();
        return length;
    }

    public int clearPreferences(int applicant) {
        if (!instance.isApplicant(applicant)) {
            return INVALID_ARGUMENT;
        }
        int before = instance.lengths[applicant];
        instance.lengths[applicant] = 0;
        forgetMatchings();
        return before;
    }

    public int preferenceAt(int applicant, int index) {
        if (!instance.isApplicant(applicant) || index < 0) {
            return INVALID_ARGUMENT;
        }
        if (index >= instance.lengths[applicant]) {
            return NOT_FOUND;
        }
        return instance.listed(applicant, index);
    }

    public int firstPost(int applicant) {
        if (!instance.isApplicant(applicant)) {
            return INVALID_ARGUMENT;
        }
        return instance.firstOf(applicant);
    }

    public int secondPost(int applicant) {
        if (!instance.isApplicant(applicant)) {
            return INVALID_ARGUMENT;
        }
        return instance.secondOf(applicant);
    }

    public int assign(int applicant, int post) {
        if (!instance.isApplicant(applicant) || (post != NONE && !instance.isPost(post))) {
            return INVALID_ARGUMENT;
        }
        if (post != NONE && !instance.isListed(applicant, post)) {
            return INVALID_STATE;
        }
        if (post != NONE && present.othersAt(post, applicant) >= instance.capacities[post]) {
            return LIMIT_REACHED;
        }
        int before = present.posts[applicant];
        history.remember(present, saved);
        present.posts[applicant] = post;
        return before;
    }

    public int postOf(int applicant) {
        if (!instance.isApplicant(applicant)) {
            return INVALID_ARGUMENT;
        }
        return present.posts[applicant];
    }

    public int size() {
        return present.countPlaced();
    }

    public int isParetoOptimal() {
        int key = challengers.bestKey(instance, present, false);
        return ChallengerSearch.marginIn(key) == 0 ? 1 : 0;
    }

    public int save() {
        saved.copyFrom(present);
        return saved.countPlaced();
    }

    public int swapSaved() {
        draft.copyFrom(saved);
        history.remember(present, saved);
        saved.copyFrom(present);
        present.copyFrom(draft);
        return present.countPlaced();
    }

    public int marginOverSaved() {
        int margin = 0;
        for (int applicant = 0; applicant < instance.applicants; applicant++) {
            int presentRank = instance.rankOf(applicant, present.posts[applicant]);
            int savedRank = instance.rankOf(applicant, saved.posts[applicant]);
            margin += Instance.vote(presentRank, savedRank);
        }
        return margin;
    }

    public int unpopularityMargin() {
        return ChallengerSearch.marginIn(challengers.bestKey(instance, present, true));
    }

    public int challengerPost(int applicant) {
        if (!instance.isApplicant(applicant)) {
            return INVALID_ARGUMENT;
        }
        return ChallengerSearch.postIn(challengers.bestKey(instance, present, true), applicant);
    }

    public int adoptChallenger() {
        int key = challengers.bestKey(instance, present, true);
        draft.clear();
        for (int applicant = 0; applicant < instance.applicants; applicant++) {
            draft.posts[applicant] = ChallengerSearch.postIn(key, applicant);
        }
        adoptDraft();
        return ChallengerSearch.marginIn(key);
    }

    public int popularCount() {
        return populars.collect(instance);
    }

    public int greatestPopularSize() {
        int count = populars.collect(instance);
        int greatest = NOT_FOUND;
        for (int index = 0; index < count; index++) {
            populars.write(instance, index, draft);
            greatest = Math.max(greatest, draft.countPlaced());
        }
        return greatest;
    }

    public int adoptPopular(int index) {
        if (index < 0) {
            return INVALID_ARGUMENT;
        }
        if (index >= populars.collect(instance)) {
            return NOT_FOUND;
        }
        populars.write(instance, index, draft);
        return adoptDraft();
    }

    public int adoptSerial(int first) {
        if (!instance.isApplicant(first)) {
            return INVALID_ARGUMENT;
        }
        draft.clear();
        for (int applicant = first; applicant < instance.applicants; applicant++) {
            draft.posts[applicant] = mostPreferredFree(applicant);
        }
        for (int applicant = 0; applicant < first; applicant++) {
            draft.posts[applicant] = mostPreferredFree(applicant);
        }
        return adoptDraft();
    }

    public int undo() {
        if (history.count == 0) {
            return NOT_FOUND;
        }
        history.restore(present, saved);
        return history.count;
    }

    private void forgetMatchings() {
        present.clear();
        saved.clear();
        history.forget();
    }

    private int adoptDraft() {
        history.remember(present, saved);
        present.copyFrom(draft);
        return present.countPlaced();
    }

    private int mostPreferredFree(int applicant) {
        for (int index = 0; index < instance.lengths[applicant]; index++) {
            int post = instance.listed(applicant, index);
            if (draft.othersAt(post, applicant) < instance.capacities[post]) {
                return post;
            }
        }
        return NONE;
    }

    /** The applicants, the posts with their capacities, and the preference lists. */
    private static final class Instance {
        int applicants;
        int posts;
        final int[] capacities = new int[MOST_POSTS];
        final int[] lengths = new int[MOST_APPLICANTS];
        private final int[] lists = new int[MOST_APPLICANTS * MOST_POSTS];

        Instance() {
            startAnew(INITIAL_APPLICANTS, INITIAL_POSTS);
        }

        void startAnew(int newApplicants, int newPosts) {
            applicants = newApplicants;
            posts = newPosts;
            for (int post = 0; post < MOST_POSTS; post++) {
                capacities[post] = 1;
            }
            for (int applicant = 0; applicant < MOST_APPLICANTS; applicant++) {
                lengths[applicant] = 0;
            }
        }

        boolean isApplicant(int applicant) {
            return applicant >= 0 && applicant < applicants;
        }

        boolean isPost(int post) {
            return post >= 0 && post < posts;
        }

        int listed(int applicant, int index) {
            return lists[applicant * MOST_POSTS + index];
        }

        boolean isListed(int applicant, int post) {
            return rankOf(applicant, post) < lengths[applicant];
        }

        /** A list holds different posts, so there is always room for a post that it lacks. */
        int append(int applicant, int post) {
            lists[applicant * MOST_POSTS + lengths[applicant]] = post;
            lengths[applicant]++;
            return lengths[applicant];
        }

        /** NONE ranks just behind the whole list, since each listed post is preferred to it. */
        int rankOf(int applicant, int post) {
            for (int index = 0; index < lengths[applicant]; index++) {
                if (listed(applicant, index) == post) {
                    return index;
                }
            }
            return lengths[applicant];
        }

        /** The vote of an applicant between two posts of these ranks: 1 is for the offered one. */
        static int vote(int offeredRank, int heldRank) {
            if (offeredRank == heldRank) {
                return 0;
            }
            return offeredRank < heldRank ? 1 : -1;
        }

        int firstOf(int applicant) {
            return lengths[applicant] == 0 ? NONE : listed(applicant, 0);
        }

        int secondOf(int applicant) {
            for (int index = 1; index < lengths[applicant]; index++) {
                int post = listed(applicant, index);
                if (countFirst(post) < capacities[post]) {
                    return post;
                }
            }
            return NONE;
        }

        /** How many applicants have the post as their first post: the document's f(p). */
        int countFirst(int post) {
            int count = 0;
            for (int applicant = 0; applicant < applicants; applicant++) {
                if (firstOf(applicant) == post) {
                    count++;
                }
            }
            return count;
        }
    }

    /** A post or NONE for each applicant; those beyond the instance's have NONE. */
    private static final class Matching {
        final int[] posts = new int[MOST_APPLICANTS];

        Matching() {
            clear();
        }

        void clear() {
            for (int applicant = 0; applicant < MOST_APPLICANTS; applicant++) {
                posts[applicant] = NONE;
            }
        }

        void copyFrom(Matching other) {
            for (int applicant = 0; applicant < MOST_APPLICANTS; applicant++) {
                posts[applicant] = other.posts[applicant];
            }
        }

        int countPlaced() {
            int count = 0;
            for (int applicant = 0; applicant < MOST_APPLICANTS; applicant++) {
                if (posts[applicant] != NONE) {
                    count++;
                }
            }
            return count;
        }

        int othersAt(int post, int except) {
            int count = 0;
            for (int applicant = 0; applicant < MOST_APPLICANTS; applicant++) {
                if (applicant != except && posts[applicant] == post) {
                    count++;
                }
            }
            return count;
        }
    }

    /** Both matchings as they stood before each of the last edits, the oldest edit first. */
    private static final class History {
        int count = 0;
        private final Matching[] presents = new Matching[MOST_UNDOS];
        private final Matching[] saveds = new Matching[MOST_UNDOS];

        History() {
            for (int edit = 0; edit < MOST_UNDOS; edit++) {
                presents[edit] = new Matching();
                saveds[edit] = new Matching();
            }
        }

        void forget() {
            count = 0;
        }

        void remember(Matching present, Matching saved) {
            if (count == MOST_UNDOS) {
                dropOldest();
            }
            presents[count].copyFrom(present);
            saveds[count].copyFrom(saved);
            count++;
        }

        void restore(Matching present, Matching saved) {
            if (count > 0) {
                count--;
                present.copyFrom(presents[count]);
                saved.copyFrom(saveds[count]);
            }
        }

        private void dropOldest() {
            for (int edit = 1; edit < MOST_UNDOS; edit++) {
                presents[edit - 1].copyFrom(presents[edit]);
                saveds[edit - 1].copyFrom(saveds[edit]);
            }
            count = MOST_UNDOS - 1;
        }
    }

    /**
     * Finds the best challenger of a matching. The applicants choose one after the other; of all
     * choices so far that fill the posts alike only the best is kept, since they can all be
     * continued in the same ways. A fill is a number with a ternary digit for each post.
     *
     * A choice is kept as a key: its margin above PLACE_BITS bits for the posts chosen, three bits
     * an applicant and applicant 0 highest, turned round so that of two choices with the same
     * margin the lesser matching has the greater key.
     */
    private static final class ChallengerSearch {
        private static final int FILLS = 243;
        private static final int[] FILL_OF_POST = {1, 3, 9, 27, 81, 243};
        private static final int PLACE_BITS = 3 * MOST_APPLICANTS;
        private static final int PLACES = (1 << PLACE_BITS) - 1;
        private static final int UNREACHED = -1 << 30;

        private final int[] placed = new int[FILLS * MOST_POSTS];
        private final int[] best = new int[FILLS];

        ChallengerSearch() {
            for (int fill = 0; fill < FILLS; fill++) {
                int rest = fill;
                for (int post = 0; post < MOST_POSTS; post++) {
                    placed[fill * MOST_POSTS + post] = rest % 3;
                    rest = rest / 3;
                }
            }
        }

        static int marginIn(int key) {
            return key >> PLACE_BITS;
        }

        static int postIn(int key, int applicant) {
            int places = PLACES - (key & PLACES);
            int place = (places >> placeShift(applicant)) & 7;
            return place == MOST_POSTS ? NONE : place;
        }

        private static int placeShift(int applicant) {
            return 3 * (MOST_APPLICANTS - 1 - applicant);
        }

        /** Without mayLose only those matchings count in which nobody is worse off than in held. */
        int bestKey(Instance instance, Matching held, boolean mayLose) {
            int fills = FILL_OF_POST[instance.posts];
            for (int fill = 0; fill < fills; fill++) {
                best[fill] = UNREACHED;
            }
            best[0] = PLACES;
            for (int applicant = 0; applicant < instance.applicants; applicant++) {
                int heldRank = instance.rankOf(applicant, held.posts[applicant]);
                int worstRank = mayLose ? instance.lengths[applicant] : heldRank;
                letChoose(instance, applicant, heldRank, worstRank);
            }
            int greatest = UNREACHED;
            for (int fill = 0; fill < fills; fill++) {
                greatest = Math.max(greatest, best[fill]);
            }
            return greatest;
        }

        /** Downwards, since a choice leads to a higher fill: so each fill is left as it was before. */
        private void letChoose(Instance instance, int applicant, int heldRank, int worstRank) {
            for (int fill = FILL_OF_POST[instance.posts] - 1; fill >= 0; fill--) {
                int key = best[fill];
                best[fill] = UNREACHED;
                for (int rank = 0; rank <= worstRank && key != UNREACHED; rank++) {
                    int margin = Instance.vote(rank, heldRank);
                    int before = key + (margin << PLACE_BITS);
                    if (rank == instance.lengths[applicant]) {
                        raise(fill, before - (MOST_POSTS << placeShift(applicant)));
                    } else {
                        int post = instance.listed(applicant, rank);
                        if (placed[fill * MOST_POSTS + post] < instance.capacities[post]) {
                            raise(fill + FILL_OF_POST[post], before - (post << placeShift(applicant)));
                        }
                    }
                }
            }
        }

        private void raise(int fill, int key) {
            if (key > best[fill]) {
                best[fill] = key;
            }
        }
    }

    /**
     * Finds the popular matchings. A matching is popular if and only if each applicant has the
     * first or the second post, and each post has as many of those whose first post it is as its
     * capacity lets it (Manlove and Sng, "Popular matchings in the capacitated house allocation
     * problem"; NONE stands for their last resort). So at most two to the power of N candidates
     * are looked at. A candidate's number has a bit for each applicant, applicant 0 highest, that
     * is 1 for the higher of the two posts: the numbers rise as the matchings do.
     */
    private static final class PopularSearch {
        private static final int CANDIDATES = 1 << MOST_APPLICANTS;

        private final int[] firsts = new int[MOST_APPLICANTS];
        private final int[] lower = new int[MOST_APPLICANTS];
        private final int[] higher = new int[MOST_APPLICANTS];
        private final int[] wanted = new int[MOST_POSTS];
        private final int[] held = new int[MOST_POSTS];
        private final int[] heldAsFirst = new int[MOST_POSTS];
        private final int[] found = new int[CANDIDATES];

        /** Collects the popular matchings in their order, and returns how many there are. */
        int collect(Instance instance) {
            prepare(instance);
            int count = 0;
            for (int candidate = 0; candidate < 1 << instance.applicants; candidate++) {
                if (isPopular(instance, candidate)) {
                    found[count] = candidate;
                    count++;
                }
            }
            return count;
        }

        /** Writes the collected matching with this index, which must be below what collect returned. */
        void write(Instance instance, int index, Matching target) {
            target.clear();
            for (int applicant = 0; applicant < instance.applicants; applicant++) {
                target.posts[applicant] = postIn(instance, found[index], applicant);
            }
        }

        private void prepare(Instance instance) {
            for (int applicant = 0; applicant < instance.applicants; applicant++) {
                int first = instance.firstOf(applicant);
                int second = instance.secondOf(applicant);
                boolean firstIsLower = second == NONE || (first != NONE && first < second);
                firsts[applicant] = first;
                lower[applicant] = firstIsLower ? first : second;
                higher[applicant] = firstIsLower ? second : first;
            }
            for (int post = 0; post < instance.posts; post++) {
                wanted[post] = Math.min(instance.countFirst(post), instance.capacities[post]);
            }
        }

        private int postIn(Instance instance, int candidate, int applicant) {
            return takesHigher(instance, candidate, applicant) ? higher[applicant] : lower[applicant];
        }

        private static boolean takesHigher(Instance instance, int candidate, int applicant) {
            return (candidate >> (instance.applicants - 1 - applicant) & 1) == 1;
        }

        private boolean isPopular(Instance instance, int candidate) {
            for (int post = 0; post < instance.posts; post++) {
                held[post] = 0;
                heldAsFirst[post] = 0;
            }
            for (int applicant = 0; applicant < instance.applicants; applicant++) {
                boolean noChoice = lower[applicant] == higher[applicant];
                if (noChoice && takesHigher(instance, candidate, applicant)) {
                    return false;
                }
                count(postIn(instance, candidate, applicant), applicant);
            }
            for (int post = 0; post < instance.posts; post++) {
                if (held[post] > instance.capacities[post] || heldAsFirst[post] != wanted[post]) {
                    return false;
                }
            }
            return true;
        }

        private void count(int post, int applicant) {
            if (post != NONE) {
                held[post]++;
                if (post == firsts[applicant]) {
                    heldAsFirst[post]++;
                }
            }
        }
    }
}
