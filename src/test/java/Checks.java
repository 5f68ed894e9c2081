/** What the boundary tests share: the sentence that is tried, the answers that are due, towns and rows that are told. */
final class Checks {
    /** Only the squares 0 .. 5 are left: a corridor of streets. */
    static final String CORRIDOR = "vw0635;";

    private static String sentence = "";
    private static int sentences = 0;
    private static int wrong = 0;

    private Checks() {
    }

    /** The words of ../shared/DOC.md from which the answers that follow are taken. */
    static void sentence(String words) {
        sentence = words;
        sentences++;
    }

    static void due(String call, int got, int want) {
        if (got != want) {
            wrong++;
            if (wrong < 60) {
                System.out.println("\"" + sentence + "\": " + call + " answered " + got + ", due is " + want);
            }
        }
    }

    static int tell(LawOfCorners x, String text) {
        for (int i = 0; i < text.length(); i++) {
            x.letter(text.charAt(i));
        }
        return x.town();
    }

    /**
     * A new object with a town; several texts where one of 96 letters would not hold it. A text
     * with a FAULT is told behind them: whatever it would make, each test then shows that it came to nothing.
     */
    static LawOfCorners made(String... texts) {
        LawOfCorners x = new LawOfCorners();
        for (String text : texts) {
            due("town() of " + text, tell(x, text), text.length() - text.replace(";", "").length());
        }
        due("town() with a FAULT", tell(x, "vm0035;kw21;f7;b8;h20;h36;"), -2022);
        return x;
    }

    static LawOfCorners withRow(LawOfCorners x, int... numbers) {
        x.clear();
        for (int number : numbers) {
            x.row(number);
        }
        return x;
    }

    static int[] times(int many, int number) {
        int[] all = new int[many];
        java.util.Arrays.fill(all, number);
        return all;
    }

    static void end(String name) {
        System.out.println(name + ": " + (wrong == 0 ? sentences + " sentences hold" : wrong + " answers are not as due"));
        if (wrong != 0) {
            System.exit(1);
        }
    }
}
