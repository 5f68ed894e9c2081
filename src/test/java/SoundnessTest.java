import java.lang.management.ManagementFactory;

/** Any calls in any order: nothing thrown, refusals change nothing, the same answers again, no objects made. */
public final class SoundnessTest {
    private static final int RUNS = 300;
    private static final int CALLS = 512;
    private static final int[] ODD = {Integer.MIN_VALUE, Integer.MAX_VALUE, -1, -2, -9, 36, 37, 20, 21, 40, 41, 255, 256, 9, 10};
    private static final String LETTERS = "kvhfb;;;0123459swcntm";
    private static int wrong = 0;
    private static long seed = 7L;

    private static int by(int n) {
        seed = seed * 6364136223846793005L + 1442695040888963407L;
        return (int) ((seed >>> 33) % n);
    }

    private static int argument(int n) {
        return by(12) == 0 ? ODD[by(ODD.length)] : by(n);
    }

    private static int call(LawOfCorners x, int method, int a, int b, int c) {
        return switch (method) {
            case 0 -> x.letter(a);
            case 1 -> x.town();
            case 2 -> x.square(a, b);
            case 3 -> x.turnTo(a, b);
            case 4 -> x.set(b, a);
            case 5 -> x.heard(a);
            case 6 -> x.walk(b);
            case 7 -> x.steps(a, c);
            case 8 -> x.corners(a, c, b);
            case 9 -> x.fines(a, c);
            case 10 -> x.straight(a, b);
            case 11 -> x.longest(b);
            case 12 -> x.words(a, c);
            case 13 -> x.unheard(a, c);
            case 14 -> x.talk(a, c);
            case 15 -> x.meet(a, c, b);
            case 16 -> x.roundOff(a, c);
            case 17 -> x.newNiche(b);
            case 18 -> x.enough();
            case 19 -> x.quiet();
            case 20 -> x.yards(a);
            case 21 -> x.said(b);
            case 22 -> x.row(b);
            case 23 -> x.judge();
            case 24 -> x.clear();
            case 25 -> x.lots(b, a, c);
            case 26 -> x.image();
            case 27 -> x.on();
            default -> x.count(a);
        };
    }

    private static String state(LawOfCorners x, boolean withRefusals) {
        StringBuilder all = new StringBuilder();
        for (int what = 0; what <= (withRefusals ? 17 : 8); what++) {
            all.append(x.count(what)).append(' ');
        }
        for (int s = 0; s < 36; s++) {
            all.append(x.square(s, 0));
        }
        return all.toString();
    }

    private static boolean isRefusal(int method, int answer) {
        return answer < 0 && answer > -9 && method != 1 && method != 28;
    }

    private static void wrong(String what) {
        wrong++;
        System.out.println(what);
    }

    private static void runOf(int run) {
        LawOfCorners x = new LawOfCorners();
        LawOfCorners twin = new LawOfCorners();
        for (int i = 0; i < CALLS; i++) {
            int method = by(4) == 0 ? by(4) : by(29);
            int a = method == 0 && by(20) != 0 ? LETTERS.charAt(by(LETTERS.length())) : argument(36);
            int b = argument(7);
            int c = argument(36);
            String before = state(x, false);
            int refusals = x.count(11) + x.count(12) + x.count(13) + x.count(14) + x.count(15) + x.count(16);
            int answer = call(x, method, a, b, c);
            int then = x.count(11) + x.count(12) + x.count(13) + x.count(14) + x.count(15) + x.count(16);
            if (answer != call(twin, method, a, b, c) || !state(x, true).equals(state(twin, true))) {
                wrong("run " + run + " call " + i + ": another answer from the twin");
            }
            if (isRefusal(method, answer) && (!state(x, false).equals(before) || then != refusals + 1)) {
                wrong("run " + run + " call " + i + ": a refusal of method " + method + " changed something");
            }
            if (!isRefusal(method, answer) && then != refusals) {
                wrong("run " + run + " call " + i + ": counted, but no refusal");
            }
            if (method > 4 && method < 22 && !state(x, false).equals(before)) {
                wrong("run " + run + " call " + i + ": method " + method + " changed something");
            }
        }
    }

    private static void room() {
        com.sun.management.ThreadMXBean bean = (com.sun.management.ThreadMXBean) ManagementFactory.getThreadMXBean();
        LawOfCorners[] kept = new LawOfCorners[10];
        long self = Thread.currentThread().getId();
        new LawOfCorners();
        bean.getThreadAllocatedBytes(self);
        long before = bean.getThreadAllocatedBytes(self);
        for (int i = 0; i < kept.length; i++) {
            kept[i] = new LawOfCorners();
        }
        long made = bean.getThreadAllocatedBytes(self);
        for (int i = 0; i < 29 * 17; i++) {
            call(kept[0], i % 29, i % 36, i % 7, i * 5 % 36);
        }
        long called = bean.getThreadAllocatedBytes(self);
        if ((made - before) / kept.length > 12000) {
            wrong("an object takes " + (made - before) / kept.length + " bytes");
        }
        if (called - made > 2000) {
            wrong("calls took " + (called - made) + " bytes");
        }
    }

    public static void main(String[] args) {
        for (int run = 0; run < RUNS; run++) {
            runOf(run);
        }
        room();
        System.out.println(wrong == 0 ? "all runs are sound" : wrong + " faults");
        if (wrong != 0) {
            System.exit(1);
        }
    }
}
