/**
 * Objects made alike. What a call leaves as it was is told by comparing an object that had the
 * call with a twin that had not, in all that can be asked of them: the instance, the present and
 * the saved matching, and each edit that can still be undone.
 */
final class Twins {
    interface Maker {
        PopularMatchings make();
    }

    interface Call {
        int on(PopularMatchings x);
    }

    private Twins() {
    }

    /** The call must answer this, and leave everything as it was. */
    static void unchangedBy(String name, Maker maker, Call call, int want) {
        Check.due(name, call.on(maker.make()), want);
        Maker afterCall = () -> {
            PopularMatchings x = maker.make();
            call.on(x);
            return x;
        };
        Check.same(name + " changes nothing", tell(afterCall), tell(maker));
    }

    static String tell(Maker maker) {
        StringBuilder told = new StringBuilder();
        told.append("looks: ").append(looks(maker.make()));
        told.append("; capacities: ").append(capacities(maker.make()));
        told.append("; N: ").append(maker.make().reset(1, 1));
        for (int undos = 0; undos <= 6; undos++) {
            told.append("; undone ").append(undos).append(": ").append(afterUndos(maker.make(), undos));
        }
        return told.toString();
    }

    /** All that can be asked without a change. */
    private static String looks(PopularMatchings x) {
        StringBuilder told = new StringBuilder();
        for (int a = 0; a <= 6; a++) {
            for (int index = 0; index <= 5; index++) {
                told.append(x.preferenceAt(a, index)).append(' ');
            }
            told.append(x.firstPost(a)).append(' ').append(x.secondPost(a)).append(' ');
            told.append(x.postOf(a)).append(' ').append(x.challengerPost(a)).append(", ");
        }
        told.append(x.size()).append(' ').append(x.isParetoOptimal()).append(' ');
        told.append(x.marginOverSaved()).append(' ').append(x.unpopularityMargin()).append(' ');
        told.append(x.popularCount()).append(' ').append(x.greatestPopularSize());
        return told.toString();
    }

    private static String capacities(PopularMatchings x) {
        StringBuilder told = new StringBuilder();
        for (int post = 0; post <= 5; post++) {
            told.append(x.setCapacity(post, 1)).append(' ');
        }
        return told.toString();
    }

    /** The answers of so many undos, then the present matching and the saved one. */
    private static String afterUndos(PopularMatchings x, int undos) {
        StringBuilder told = new StringBuilder();
        for (int undo = 0; undo < undos; undo++) {
            told.append(x.undo()).append(' ');
        }
        told.append(postsOf(x)).append("saved ").append(x.swapSaved()).append(' ').append(postsOf(x));
        return told.toString();
    }

    static String postsOf(PopularMatchings x) {
        StringBuilder told = new StringBuilder();
        for (int a = 0; a < 6; a++) {
            told.append(x.postOf(a)).append(' ');
        }
        return told.toString();
    }
}
