// Counts the answers that are not the ones due, and ends the test with exit code 1 if there was one.
final class Expect {
    private static final int MOST_TOLD = 10;

    private int asked = 0;
    private int wrong = 0;
    private int sentences = 0;
    private String sentence = "";
    private int askedForSentence = 0;
    private int toldForSentence = 0;

    // The answers from here on show whether these words of the document hold.
    void sentence(String words) {
        endSentence();
        sentences++;
        sentence = words;
        askedForSentence = 0;
        toldForSentence = 0;
    }

    void same(String what, long got, long due) {
        count();
        if (got != due) {
            tell(what + " answered " + got + ", due is " + due);
        }
    }

    void same(String what, String got, String due) {
        count();
        if (!got.equals(due)) {
            int from = firstDifference(got, due);
            tell(what + " from character " + from + " on\n  answered " + part(got, from)
                    + "\n  due is   " + part(due, from));
        }
    }

    private static int firstDifference(String got, String due) {
        int at = 0;
        while (at < got.length() && at < due.length() && got.charAt(at) == due.charAt(at)) {
            at++;
        }
        return at;
    }

    private static String part(String whole, int from) {
        return whole.substring(from, Math.min(whole.length(), from + 60));
    }

    void yes(String what, boolean got) {
        same(what, got ? 1 : 0, 1);
    }

    void no(String what, boolean got) {
        same(what, got ? 1 : 0, 0);
    }

    boolean failed() {
        return wrong > 0;
    }

    void end() {
        endSentence();
        String of = sentences > 0 ? sentences + " sentences, " : "";
        System.out.println(of + asked + " answers, " + wrong + " not as due");
        if (wrong > 0) {
            System.exit(1);
        }
    }

    private void count() {
        asked++;
        askedForSentence++;
    }

    // One broken sentence may bring hundreds of wrong answers: the first few of each tell enough.
    private void tell(String fault) {
        wrong++;
        toldForSentence++;
        if (sentences > 0 && toldForSentence == 1) {
            System.out.println("broken: \"" + sentence + "\"");
        }
        if (toldForSentence <= MOST_TOLD) {
            System.out.println(fault);
        }
    }

    // A sentence for which nothing was asked only looks tested.
    private void endSentence() {
        if (sentences > 0 && askedForSentence == 0) {
            tell("no answer was asked for it");
        }
    }
}
