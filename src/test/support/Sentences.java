import java.io.IOException;
import java.nio.file.Files;
import java.nio.file.Path;

/** What the tests by promise and by sentence share: what is held to, answers that are due, tables that are laid. */
abstract class Sentences {
    static final int NONE = -1;
    static final int UNKNOWN = -1000000001;
    static final int OUTSIDE = -1000000002;
    static final int NOT = -1000000003;
    static final int FULL = -1000000004;
    static final int LEAST = Integer.MIN_VALUE;
    static final int MOST = Integer.MAX_VALUE;

    /** Cards 0: 9 of 1, 1: 11 of 0, 2: 13 of 0, 3: 2 of 2 (trump), 4: 9 of 3, 5: 5 of 1, 6: 1 of 0. */
    static final String SEVEN = "r2 0 1;c9 1;c11 0;c13 0;c2 2;c9 3;c5 1;c1 0;p;p;p;p;";
    /** Twelve cards of one suit, card c of rank c + 1; six persons. */
    static final String TWELVE =
        "r4 0 0;c1 0;c2 0;c3 0;c4 0;c5 0;c6 0;c7 0;c8 0;c9 0;c10 0;c11 0;c12 0;p;p;p;p;p;p;";

    private static final Path DOCUMENT = Path.of("../shared/DOC.md");

    private static String document = "";
    private static String held = "";
    private static int sentences;
    private static int wrong;

    /** The words must stand in the document, so that a test never holds to what is not said any more. */
    static void sentence(String words) {
        held = words;
        sentences++;
        if (!document().contains(words)) {
            wrong++;
            System.out.println("the document does not say: " + words);
        }
    }

    /** What is tested, where it is more than one sentence. */
    static void about(String what) {
        held = what;
    }

    private static String document() {
        if (document.isEmpty()) {
            try {
                document = Files.readString(DOCUMENT);
            } catch (IOException e) {
                document = "there is no document at " + DOCUMENT;
                System.out.println(document);
            }
        }
        return document;
    }

    static void due(String call, int got, int want) {
        if (got != want) {
            wrong++;
            System.out.println("\"" + held + "\": " + call + " answered " + got + ", due is " + want);
        }
    }

    static void due(String what, String got, String want) {
        if (!got.equals(want)) {
            wrong++;
            System.out.println("\"" + held + "\": " + what + " is " + got + ", due is " + want);
        }
    }

    static void end() {
        String kept = sentences == 0 ? "every answer is as due" : sentences + " sentences are held to";
        System.out.println(wrong == 0 ? kept : wrong + " answers are not as due");
        if (wrong != 0) {
            System.exit(1);
        }
    }

    static CardBecome feedAll(CardBecome x, String text) {
        for (int i = 0; i < text.length(); i++) {
            x.feed(text.charAt(i));
        }
        return x;
    }

    static int lay(CardBecome x, String text) {
        return feedAll(x, text).table();
    }

    static CardBecome with(String text) {
        CardBecome x = new CardBecome();
        int answer = lay(x, text);
        if (answer < 0) {
            due("table() of \"" + text + "\", with a fault at " + x.fault(), answer, 0);
        }
        return x;
    }

    static void drawAll(CardBecome x) {
        for (int p = 0; p < x.told(4); p++) {
            x.drawOne(p);
        }
    }

    static CardBecome drawn(String text) {
        CardBecome x = with(text);
        drawAll(x);
        return x;
    }

    static String packOf(CardBecome x) {
        StringBuilder row = new StringBuilder();
        for (int i = 0; i < x.told(6); i++) {
            row.append(i == 0 ? "" : " ").append(x.pack(i));
        }
        return row.toString();
    }

    static void duePack(String when, CardBecome x, String want) {
        due("the pack " + when, packOf(x), want);
    }

    static void duePack(CardBecome x, String want) {
        duePack("", x, want);
    }

    private static String eachPerson(CardBecome x, int what) {
        StringBuilder row = new StringBuilder();
        for (int p = 0; p < x.told(4); p++) {
            row.append(p == 0 ? "" : " ").append(x.person(p, what));
        }
        return row.toString();
    }

    static String isOf(CardBecome x) {
        return eachPerson(x, 0);
    }

    static void dueIs(String when, CardBecome x, String want) {
        due("who is what " + when, isOf(x), want);
    }

    static String winsOf(CardBecome x) {
        return eachPerson(x, 1);
    }

    /** The pack, who is what, wins, drawers, the log and, by what is held, what both were. */
    static String sectionTwo(CardBecome x) {
        StringBuilder text = new StringBuilder(packOf(x)).append('/').append(isOf(x)).append('/').append(winsOf(x));
        text.append('/').append(x.told(7)).append('/').append(x.told(10)).append('/');
        for (int i = 0; i < x.told(10); i++) {
            text.append(x.logged(i, 0)).append(x.logged(i, 1)).append(x.logged(i, 2)).append(' ');
        }
        return text.append(x.told(11)).toString();
    }

    static void dueTold(String when, CardBecome x, int... want) {
        for (int what = 0; what < want.length; what++) {
            due("told(" + what + ") " + when, x.told(what), want[what]);
        }
    }
}
