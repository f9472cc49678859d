import java.util.Set;
import java.util.TreeSet;

/** What the tests share: an object told by a text, and answers held against what is due. */
final class Due {
    /** Numbers that are out of every bound of the document. */
    static final int[] FAR = {Integer.MIN_VALUE, Integer.MIN_VALUE + 1, -1000, -1, 1000, 65536, Integer.MAX_VALUE};

    private int asked = 0;
    private int wrong = 0;
    private final Set<String> sentences = new TreeSet<>();
    private String sentence = "";

    /** The answers that follow hold a sentence of the document. */
    void says(int promise, String words) {
        sentence = "promise " + promise + ", \"" + words + "\": ";
        sentences.add(sentence);
    }

    void termsSay(String words) {
        sentence = "terms, \"" + words + "\": ";
        sentences.add(sentence);
    }

    void is(String call, long got, long want) {
        asked++;
        if (got != want) {
            wrong++;
            System.out.println(sentence + call + " answered " + got + ", due is " + want);
        }
    }

    /** Answers to 0, 1, 2 .. of what a call can be asked. */
    void are(String call, long[] got, long... want) {
        is(call + ", how many", got.length, want.length);
        for (int i = 0; i < Math.min(got.length, want.length); i++) {
            is(call + ", what " + i, got[i], want[i]);
        }
    }

    void finish(String name) {
        String held = sentences.isEmpty() ? "" : sentences.size() + " sentences, ";
        System.out.println(name + ": " + held + asked + " answers, " + wrong + " wrong");
        if (wrong > 0) {
            System.exit(1);
        }
    }

    static UnlikeFerry told(String text) {
        UnlikeFerry x = new UnlikeFerry();
        int lines = tell(x, text);
        if (lines < 0) {
            throw new IllegalStateException("the text is not taken: " + text + " (" + lines + ")");
        }
        return x;
    }

    static int tell(UnlikeFerry x, String text) {
        feed(x, text);
        return x.text();
    }

    static void feed(UnlikeFerry x, String text) {
        for (int i = 0; i < text.length(); i++) {
            x.feed(text.charAt(i));
        }
    }

    /** Told by a text, and all who are to come wait. */
    static UnlikeFerry allHere(String text) {
        UnlikeFerry x = told(text);
        for (int p = 0; p < x.rule(0); p++) {
            x.come(p);
        }
        return x;
    }

    /**
     * Five who stand in each way that there is: 0 is to come, 1 waits, 2 is aboard, 3 has sailed (with 5), 4 gave up.
     * All are unlike; two seats.
     */
    static UnlikeFerry fiveWays() {
        UnlikeFerry x = told("plain 0 0 0 9 9;plain 1 1 1 9 9;plain 2 2 2 9 9;plain 3 3 3 9 9;plain 4 4 4 9 9;"
            + "plain 5 5 5 9 9;seats 2;here 1;here 2;here 3;here 4;here 5;");
        x.board(3);
        x.board(5);
        x.board(2);
        x.leave(4);
        return x;
    }
}
