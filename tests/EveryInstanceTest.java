import java.util.ArrayList;
import java.util.List;

/**
 * The popular matchings of every small instance, by the words of the document: no matching that is
 * listed by the program has a matching with a positive margin over it, and every other one has.
 */
final class EveryInstanceTest {
    public static void main(String[] args) {
        everyInstance(1, 3);
        everyInstance(2, 3);
        everyInstance(3, 2);
        everyInstance(3, 3);
        everyInstance(4, 2);
        everyInstance(5, 2);
        everyInstance(6, 1);
        Check.end("EveryInstanceTest");
    }

    private static void everyInstance(int n, int p) {
        List<String> lists = new ArrayList<>();
        addLists("", p, lists);
        int[] choice = new int[n];
        boolean more = true;
        while (more && !Check.tooManyWrong()) {
            for (int capacities = 0; capacities < 1 << p; capacities++) {
                compare(n, p, lists, choice, capacities);
            }
            more = advance(choice, lists.size());
        }
    }

    private static void addLists(String list, int p, List<String> lists) {
        lists.add(list);
        for (int post = 0; post < p; post++) {
            if (list.indexOf('0' + post) < 0) {
                addLists(list + post, p, lists);
            }
        }
    }

    private static boolean advance(int[] choice, int bound) {
        for (int i = 0; i < choice.length; i++) {
            choice[i]++;
            if (choice[i] < bound) {
                return true;
            }
            choice[i] = 0;
        }
        return false;
    }

    private static void compare(int n, int p, List<String> lists, int[] choice, int capacities) {
        PopularMatchings x = new PopularMatchings();
        Model model = new Model();
        x.reset(n, p);
        model.reset(n, p);
        StringBuilder name = new StringBuilder("capacities " + capacities);
        for (int post = 0; post < p; post++) {
            x.setCapacity(post, 1 + (capacities >> post & 1));
            model.setCapacity(post, 1 + (capacities >> post & 1));
        }
        for (int a = 0; a < n; a++) {
            String list = lists.get(choice[a]);
            name.append(" ").append(a).append(":").append(list);
            for (int i = 0; i < list.length(); i++) {
                x.appendPreference(a, list.charAt(i) - '0');
                model.appendPreference(a, list.charAt(i) - '0');
            }
        }
        compareAnswers(name.toString(), n, x, model);
    }

    private static void compareAnswers(String name, int n, PopularMatchings x, Model model) {
        List<int[]> want = model.popular();
        Check.due(name + ": popularCount()", x.popularCount(), want.size());
        Check.due(name + ": greatestPopularSize()", x.greatestPopularSize(), model.greatestPopularSize());
        for (int index = 0; index < want.size(); index++) {
            Check.due(name + ": adoptPopular(" + index + ")", x.adoptPopular(index), Model.sizeOf(want.get(index)));
            Check.posts(name + ": adoptPopular(" + index + ")", x, want.get(index));
        }
        Check.due(name + ": adoptPopular(" + want.size() + ")", x.adoptPopular(want.size()), -104);
        for (int a = 0; a < n; a++) {
            Check.due(name + ": secondPost(" + a + ")", x.secondPost(a), model.secondPost(a));
        }
    }
}
