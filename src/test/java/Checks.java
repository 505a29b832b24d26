/** Counts and prints the answers that are not as due, and makes what most tests begin with. */
final class Checks {
    static final int ALL_HOURS = (1 << 24) - 1;
    private int wrong = 0;
    private int asked = 0;
    private int sentences = 0;
    private int askedBefore = 0;
    private String sentence = "";

    /** The answers looked at from here on are what this sentence of the document says. */
    void sentence(String words) {
        closeSentence();
        sentences++;
        askedBefore = asked;
        sentence = words;
    }

    private void closeSentence() {
        if (sentences > 0 && asked == askedBefore) {
            wrong++;
            System.out.println("nothing is asked of: " + sentence);
        }
    }

    void due(String call, long got, long want) {
        asked++;
        if (got != want) {
            wrong++;
            if (wrong <= 50) {
                String of = sentence.isEmpty() ? "" : " (" + sentence + ")";
                System.out.println(call + " answered " + got + ", due is " + want + of);
            }
        }
    }

    void end(String name) {
        closeSentence();
        String of = sentences == 0 ? "" : sentences + " sentences, ";
        System.out.println(name + ": " + of + asked + " answers looked at, " + wrong + " not as due");
        if (wrong != 0 || asked == 0) {
            System.exit(1);
        }
    }

    /** Feeds a text, and asks for a valley. */
    static int valley(TwinTools x, String text) {
        feed(x, text);
        return x.valley();
    }

    static void feed(TwinTools x, String text) {
        for (int i = 0; i < text.length(); i++) {
            x.feed(text.charAt(i));
        }
    }

    /** People of these kinds, v 0, house 0, always free. */
    static TwinTools people(int... kinds) {
        TwinTools x = new TwinTools();
        for (int kind : kinds) {
            x.free(x.person(kind, 0, 0), ALL_HOURS);
        }
        return x;
    }

    /** Tools of sort 0 held by these, neighbours being twins. */
    static void pairs(TwinTools x, int... holders) {
        for (int holder : holders) {
            x.tool(0, holder);
        }
        for (int t = 0; t + 1 < holders.length; t += 2) {
            x.twin(t, t + 1);
        }
    }
}
