/** Compares answers with those that are due, and ends a test with exit code 1 if one was not. */
final class Check {
    private static int checked = 0;
    private static int wrong = 0;

    private Check() {
    }

    static void due(String call, long answer, long want) {
        checked++;
        if (answer != want) {
            wrong++;
            System.out.println(call + " answered " + answer + ", due is " + want);
        }
    }

    static void same(String what, String answers, String want) {
        checked++;
        if (!answers.equals(want)) {
            wrong++;
            System.out.println(what + "\n  answered " + answers + "\n  due is   " + want);
        }
    }

    static void posts(String when, PopularMatchings x, int... want) {
        for (int applicant = 0; applicant < want.length; applicant++) {
            due(when + ": postOf(" + applicant + ")", x.postOf(applicant), want[applicant]);
        }
    }

    static boolean tooManyWrong() {
        return wrong > 50;
    }

    static void end(String test) {
        System.out.println(test + ": " + checked + " answers checked, " + wrong + " not as due");
        if (wrong != 0 || checked == 0) {
            System.exit(1);
        }
    }

    /** Fills the lists of an object: a text of digits for each applicant. */
    static PopularMatchings listing(PopularMatchings x, String... lists) {
        for (int applicant = 0; applicant < lists.length; applicant++) {
            for (int index = 0; index < lists[applicant].length(); index++) {
                int answer = x.appendPreference(applicant, lists[applicant].charAt(index) - '0');
                due("appendPreference(" + applicant + ", " + lists[applicant].charAt(index) + ")", answer, index + 1);
            }
        }
        return x;
    }

    static PopularMatchings withReset(int applicants, int posts, String... lists) {
        PopularMatchings x = new PopularMatchings();
        due("reset(" + applicants + ", " + posts + ")", x.reset(applicants, posts), 4);
        return listing(x, lists);
    }
}
