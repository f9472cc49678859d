/** What the tests share: an object told by a text, and answers held against what is due. */
final class Due {
    private int asked = 0;
    private int wrong = 0;

    void is(String call, long got, long want) {
        asked++;
        if (got != want) {
            wrong++;
            System.out.println(call + " answered " + got + ", due is " + want);
        }
    }

    void finish(String name) {
        System.out.println(name + ": " + asked + " answers, " + wrong + " wrong");
        if (wrong > 0) {
            System.exit(1);
        }
    }

    static UnlikeFerry told(String text) {
        UnlikeFerry x = new UnlikeFerry();
        int lines = tell(x, text);
        if (lines < 0) {
            throw new IllegalStateException("the text is not taken: " + text + " (" + lines + ")");
        }
        return x;
    }

    static int tell(UnlikeFerry x, String text) {
        for (int i = 0; i < text.length(); i++) {
            x.feed(text.charAt(i));
        }
        return x.text();
    }
}
