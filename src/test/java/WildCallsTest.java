import java.util.Random;

/** Any call with any arguments in any state answers: none throws, none makes objects, each ends. */
public final class WildCallsTest {
    private static final int[] ODD = {Integer.MIN_VALUE, Integer.MIN_VALUE + 1, -1000, -2, -1, 0, 1, 2, 3, 4, 5, 6, 7, 8, 9,
        10, 12, 13, 31, 32, 64, 99, 100, 300, 500, 540, 541, 719, 720, 72000, Integer.MAX_VALUE - 1, Integer.MAX_VALUE};
    private static final int RUNS = 4000;
    private static final int CALLS = 512;
    private static final int STATES = 7;
    private static final long MOST_MILLIS = 600000;
    private static final String FIVE = "pallet a 1 1;pallet b 2 2;pallet c 3 3;pallet d 4 4;pallet e 5 9;";

    private static volatile boolean ended;

    private final Random chance;
    private final LoadSpans x = new LoadSpans();

    private WildCallsTest(int seed) {
        chance = new Random(seed);
    }

    public static void main(String[] args) throws InterruptedException {
        Due due = new Due("WildCallsTest");
        Thread wild = new Thread(() -> all(due));
        wild.setDaemon(true);
        wild.start();
        wild.join(MOST_MILLIS);
        due.is("all calls have ended", ended, true);
        due.close();
    }

    private static void all(Due due) {
        long sum = 0;
        for (int i = 0; i < RUNS; i++) {
            WildCallsTest test = new WildCallsTest(i);
            try {
                for (int call = 0; call < CALLS; call++) {
                    sum += test.call();
                }
            } catch (RuntimeException | Error e) {
                e.printStackTrace(System.out);
                due.is("run " + i + " throws", true, false);
            }
        }
        due.is("the answers are something", sum != 0, true);
        for (int state = 0; state < STATES; state++) {
            WildCallsTest test = new WildCallsTest(state);
            try {
                test.come(state);
                test.allPairs();
            } catch (RuntimeException | Error e) {
                e.printStackTrace(System.out);
                due.is("state " + state + " throws", true, false);
            }
        }
        dearest(due);
        ended = true;
    }

    /** The states in which all pairs of odd arguments are tried. */
    private void come(int state) {
        String six = "hold a 999 front;" + "spot 50 99;".repeat(6) + "bin 1 99;bin 99 99;tank t 9 9;burn t 9;"
            + "stop;".repeat(4);
        switch (state) {
            case 1 -> Texts.plane(x, six);
            case 2 -> Texts.cargo(x, FIVE);
            case 3, 4, 5 -> {
                Texts.plane(x, six);
                Texts.cargo(x, FIVE + "bulk 99;");
                x.take(state == 3 ? -1 : 71);
                x.image(0);
                if (state == 5) {
                    Texts.plane(x, "");
                }
            }
            case 6 -> {
                Texts.cargo(x, FIVE);
                Texts.cargo(x, "!");
                Texts.tell(x, " ".repeat(540));
            }
            default -> x.fault();
        }
    }

    /** Of these, what changes something is called in the state to which the calls before have come. */
    private void allPairs() {
        long sum = 0;
        for (int a : ODD) {
            for (int b : ODD) {
                sum += x.pallet(a, b) + x.spot(a, b) + x.in(a, b) + x.stage(a, b) + x.loading(a, b) + x.poured(a, b);
                sum += x.put(a, b) + x.pour(a, b) + x.weigh(a, b) + x.come(a, b) + x.why() + x.where();
            }
            sum += x.count(a) + x.off(a) + x.blocks(a) + x.take(a) + x.handlings(a) + x.move(a) + x.spare(a) + x.again(a);
            sum += x.drop(a) + x.undo() + x.mend() + x.mended() + x.swaps() + x.loadings() + x.feed(a, a, a, a, a) + x.fault();
            x.end(a);
            x.image(a);
            x.restore(a);
            sum += x.named();
        }
        x.feed((int) sum, 0, 0, 0, 0);
        x.plane();
        x.cargo();
    }

    private int any() {
        return chance.nextInt(3) == 0 ? ODD[chance.nextInt(ODD.length)] : chance.nextInt(6);
    }

    private int call() {
        switch (chance.nextInt(38)) {
            case 0: return x.feed(any(), chance.nextInt(), chance.nextInt(), any(), any());
            case 1: return x.end(any()) ? 1 : 0;
            case 2: return chance.nextInt(20) == 0 ? x.plane() : 0;
            case 3: return chance.nextInt(20) == 0 ? x.cargo() : 0;
            case 4: return x.fault();
            case 5: return x.count(any());
            case 6: return x.pallet(any(), any());
            case 7: return x.named();
            case 8: return x.spot(any(), any());
            case 9: return x.in(any(), any());
            case 10, 11: return x.put(any(), any());
            case 12: return x.off(any());
            case 13: return x.pour(any(), any());
            case 14: return x.why() + x.where();
            case 15: return x.stage(any(), any());
            case 16: return x.blocks(any());
            case 17: return x.loadings();
            case 18: return x.loading(any(), any());
            case 19: return x.poured(any(), any());
            case 20: return x.take(any());
            case 21: return x.handlings(any());
            case 22: return x.mend();
            case 23: return x.move(any());
            case 24: return x.mended();
            case 25: return x.spare(any());
            case 26: return x.swaps();
            case 27, 28: return x.come(any(), any());
            case 29: return x.drop(any());
            case 30: return x.again(any());
            case 31: return x.weigh(any(), any());
            case 32: return x.undo();
            case 33: return x.image(any()) ? 1 : 0;
            case 34: return x.restore(any()) ? 1 : 0;
            default: return text();
        }
    }

    private int text() {
        RandomTexts texts = new RandomTexts(chance);
        switch (chance.nextInt(8)) {
            case 0: return Texts.plane(x, texts.plane());
            case 1: return Texts.cargo(x, texts.cargo());
            case 2: return Texts.plane(x, texts.spoilt(texts.plane()));
            case 3: return Texts.cargo(x, texts.spoilt(texts.cargo()));
            case 4: return Texts.plane(x, texts.heap(true));
            case 5: return Texts.named(x, "abc");
            default: return 0;
        }
    }

    /** All LOADINGS there can be, asked for anew 512 times: the memory that this thread takes must stay small. */
    private static void dearest(Due due) {
        var threads = (com.sun.management.ThreadMXBean) java.lang.management.ManagementFactory.getThreadMXBean();
        long before = threads.getCurrentThreadAllocatedBytes();
        LoadSpans[] some = new LoadSpans[100];
        for (int i = 0; i < some.length; i++) {
            some[i] = new LoadSpans();
        }
        long made = threads.getCurrentThreadAllocatedBytes() - before;
        due.is("bytes of 100 objects (" + made + ") are few", made < 100 * 40000, true);
        LoadSpans x = Texts.loader("span 1 99;tank t 50 99;hold a 999 front;" + "spot 50 9;".repeat(6)
            + "bin 60 99;bin 50 99;" + "stop;".repeat(4) + "burn t 1;".repeat(8),
            "pallet a 1 1;pallet b 1 1;pallet c 1 1;pallet d 1 1;pallet e 1 1;bulk 99;");
        x.pour(0, 99);
        before = threads.getCurrentThreadAllocatedBytes();
        for (int i = 0; i < 100; i++) {
            x.weigh(0, 2 + i % 2);
            x.loadings();
            x.handlings(71999);
            x.mend();
            x.mended();
            x.spare(1);
            x.swaps();
            x.undo();
        }
        long taken = threads.getCurrentThreadAllocatedBytes() - before;
        due.is("bytes that calls take (" + taken + ")", taken < 10000, true);
    }
}
