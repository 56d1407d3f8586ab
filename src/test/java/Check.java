/** Counts the answers that are not as due, and tells houses by text. */
final class Check {
    private final String name;
    private String sentence = "";
    private int calls;
    private int wrong;

    Check(String name) {
        this.name = name;
    }

    /** The document's sentence that the next answers hold: SentencesTest looks it up there. */
    void says(String words) {
        sentence = " <" + words + ">";
    }

    void due(String what, long got, long want) {
        calls++;
        if (got != want) {
            wrong++;
            System.out.println(name + sentence + ": " + what + " answered " + got + ", due is " + want);
        }
    }

    void due(String what, boolean got, boolean want) {
        due(what, got ? 1 : 0, want ? 1 : 0);
    }

    /** Ends the program with 1 if an answer was wrong. */
    void end() {
        System.out.println(name + ": " + calls + " answers, " + wrong + " not as due");
        if (wrong != 0 || calls == 0) {
            System.exit(1);
        }
    }

    /** Puts a text on the tape, 24 signs a call. */
    static void feed(SwollenHouse x, String text) {
        for (int i = 0; i < text.length(); i += 24) {
            x.feed(packed(text, i), packed(text, i + 8), packed(text, i + 16));
        }
    }

    static long packed(String text, int at) {
        long bytes = 0;
        for (int i = at; i < at + 8; i++) {
            bytes = bytes << 8 | (i < text.length() ? text.charAt(i) : 0);
        }
        return bytes;
    }

    static int house(SwollenHouse x, String text) {
        feed(x, text);
        return x.house();
    }

    static int days(SwollenHouse x, String text) {
        feed(x, text);
        return x.days();
    }

    /** A new object with a house that must be without fault. */
    SwollenHouse told(String text) {
        SwollenHouse x = new SwollenHouse();
        due("house of " + text, house(x, text), 0);
        return x;
    }

    /** A new object with a house and days that must be without fault. */
    SwollenHouse told(String text, String lines) {
        SwollenHouse x = told(text);
        due("days of " + lines, days(x, lines), 0);
        return x;
    }

    /** The fault of a text as a new object's house, kind and place apart. */
    void fault(String text, int kind, int place) {
        due("fault of <" + text + ">", house(new SwollenHouse(), text), kind + 16 * place);
    }
}
