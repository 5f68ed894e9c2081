import java.lang.reflect.Method;
import java.util.ArrayList;
import java.util.Arrays;
import java.util.List;

/** Runs of 512 calls in any order: each answer is that of the document written a second time. */
public final class ModelTest {
    private static final int RUNS = 200;
    private static final int CALLS = 512;
    private static final int LOOKS = 36 + 15;
    private static final int[] ODD = {-1, -2, -9, 2, 3, 4, 5, 6, 7, 9, 10, 20, 21, 36, 37, 40, 41, 255, 256, Integer.MIN_VALUE, Integer.MAX_VALUE};
    // What each method is asked with: S a square, W a what, Y a way, K a kind, N steps, T words, V a number of the row, Z any.
    private static final String[] ASKED = {"square SW", "turnTo SK", "turnTo SK", "set WV", "set VS", "heard S", "walk W", "steps SS", "corners SSW", "fines SS",
        "straight SY", "longest Y", "words SN", "unheard SN", "talk ST", "meet SSY", "roundOff SS", "newNiche Y", "enough", "quiet", "yards S",
        "said Y", "row V", "row V", "row Y", "judge", "clear", "lots NZY", "image", "on", "count N", "town", "letter T"};
    private static long seed = 2026111812L;
    private static int wrong = 0;
    private static int asked = 0;

    private LawOfCorners x = new LawOfCorners();
    private Model model = new Model();
    private final List<String> calls = new ArrayList<>();

    private static int by(int n) {
        seed = seed * 6364136223846793005L + 1442695040888963407L;
        return (int) ((seed >>> 33) % n);
    }

    private static int answer(Object of, String name, int... arguments) throws Exception {
        Class<?>[] types = new Class<?>[arguments.length];
        Object[] given = new Object[arguments.length];
        for (int i = 0; i < arguments.length; i++) {
            types[i] = int.class;
            given[i] = arguments[i];
        }
        Method method = of.getClass().getDeclaredMethod(name, types);
        return (Integer) method.invoke(of, given);
    }

    private void ask(String name, int... arguments) throws Exception {
        String call = name + Arrays.toString(arguments);
        int due = answer(model, name, arguments);
        int got = answer(x, name, arguments);
        calls.add(call + " -> " + got);
        asked++;
        if (got != due) {
            wrong++;
            if (wrong <= 5) {
                System.out.println("in " + model.look() + ": " + call + " answered " + got + ", due is " + due);
                System.out.println("  behind " + calls.subList(Math.max(0, calls.size() - 12), calls.size()));
            }
        }
    }

    private static int argument(char of) {
        if (of == 'Z') {
            return by(2) == 0 ? ODD[by(ODD.length)] : by(1 << 30) * 7;
        }
        if (by(25) == 0) {
            return ODD[by(ODD.length)];
        }
        return by(switch (of) {
            case 'S' -> 36;
            case 'W' -> 7;
            case 'Y' -> by(3) == 0 ? 4 : 2;
            case 'K' -> 6;
            case 'N' -> 21;
            case 'T' -> 41;
            default -> by(8) == 0 ? 10 : 3;
        });
    }

    private static String two(int n) {
        return "" + n / 10 + n % 10;
    }

    private static String statement() {
        char kind = "ssscnmwt".charAt(by(8));
        int square = by(40) == 0 ? by(100) : by(36);
        switch (by(6)) {
            case 0:
                return "h" + two(square) + ";";
            case 1:
                return "f" + by(10) + ";";
            case 2:
                return "b" + by(10) + ";";
            case 3:
                return "v" + kind + two(square) + two(by(30) == 0 ? by(100) : Math.min(35, square + by(8))) + ";";
            default:
                return "k" + kind + two(square) + ";";
        }
    }

    private void tell() throws Exception {
        StringBuilder text = new StringBuilder();
        // Now and then more than the 96 letters for which there is room.
        for (int i = by(by(8) == 0 ? 40 : 6); i >= 0; i--) {
            text.append(statement());
        }
        if (by(8) == 0) {
            text.setCharAt(by(text.length()), (char) by(256));
        }
        if (by(12) == 0) {
            text.setLength(by(text.length()));
        }
        for (int i = 0; i < text.length() && calls.size() < CALLS - LOOKS - 1; i++) {
            ask("letter", text.charAt(i));
        }
        ask("town");
    }

    /** A row of ways, of words, or of anything; what is asked of it at once is asked of a whole one. */
    private void tellRow() throws Exception {
        ask("clear");
        int of = by(3);
        for (int i = by(12); i > 0 && calls.size() < CALLS - LOOKS - 3; i--) {
            ask("row", of == 0 ? by(4) : of == 1 ? "0111112".charAt(by(7)) - '0' : by(10));
        }
        ask(by(2) == 0 ? "walk" : "said", by(2));
        ask("walk", by(7));
    }

    private void turnMany() throws Exception {
        String kinds = by(2) == 0 ? "swwcm" : "sscnmwt";
        for (int i = by(20); i > 0 && calls.size() < CALLS - LOOKS; i--) {
            ask("turnTo", by(36), "swcntm".indexOf(kinds.charAt(by(kinds.length()))));
        }
    }

    private void look() throws Exception {
        for (int s = 0; s < 36; s++) {
            ask("square", s, 0);
        }
        for (int what = 0; what < 15; what++) {
            ask("count", what < 9 ? what : what + 2);
        }
    }

    private void run() throws Exception {
        while (calls.size() < CALLS - LOOKS - 3) {
            int turn = by(60);
            if (turn == 0) {
                tell();
            } else if (turn == 1) {
                tellRow();
            } else if (turn == 2) {
                turnMany();
            } else {
                String[] one = ASKED[by(ASKED.length)].split(" ");
                int[] arguments = new int[one.length == 1 ? 0 : one[1].length()];
                for (int i = 0; i < arguments.length; i++) {
                    arguments[i] = argument(one[1].charAt(i));
                }
                ask(one[0], arguments);
            }
        }
        look();
        if (calls.size() > CALLS) {
            wrong++;
            System.out.println("a run of " + calls.size() + " calls");
        }
    }

    public static void main(String[] args) throws Exception {
        for (int run = 0; run < RUNS; run++) {
            new ModelTest().run();
        }
        System.out.println(wrong == 0 ? asked + " answers are those of the model" : wrong + " answers are not those of the model");
        if (wrong != 0) {
            System.exit(1);
        }
    }
}
