import java.util.Random;
import java.util.function.Function;

/** Runs of up to 512 chosen calls on new objects, each answered by BlockLayout as by the plain model. */
public final class RandomRunsTest {
    private static final int RUNS = 1500;
    private static final int[] ODD = {-1, -2, 0, 1, 16, 17, 60, 61, 500, 501, 9999, 10000, Integer.MIN_VALUE, Integer.MAX_VALUE};
    private static final String SIGNS = "0123456789 -stopgif";

    private final Random random;
    private final BlockLayout real = new BlockLayout();
    private final PlainModel model = new PlainModel();
    private final StringBuilder told = new StringBuilder();
    private int blocks = 1;
    private int calls;
    private boolean wrong;

    private RandomRunsTest(long seed) {
        random = new Random(seed);
    }

    public static void main(String[] args) {
        int calls = 0;
        int wrong = 0;
        for (int seed = 0; seed < RUNS && wrong < 3; seed++) {
            RandomRunsTest run = new RandomRunsTest(seed);
            run.play();
            calls += run.calls;
            if (run.wrong) {
                wrong++;
                System.out.println("RandomRunsTest, seed " + seed + ":" + run.told);
            }
        }
        System.out.println("RandomRunsTest: " + calls + " calls, " + wrong + " runs wrong");
        if (wrong != 0) System.exit(1);
    }

    private void same(String call, Function<BlockLayout, Object> onReal, Function<PlainModel, Object> onModel) {
        if (wrong || calls == 512) return;
        calls++;
        Object got = Check.outcome(() -> onReal.apply(real));
        Object want = Check.outcome(() -> onModel.apply(model));
        told.append(' ').append(call).append('=').append(got).append(';');
        if (!got.equals(want)) {
            wrong = true;
            told.append(" due is ").append(want);
        }
    }

    private void play() {
        int length = 20 + random.nextInt(493);
        if (random.nextInt(8) != 0) program(1 + random.nextInt(16));
        while (calls < length && !wrong) step();
    }

    private void step() {
        int choice = random.nextInt(100);
        if (choice < 1) program(random.nextInt(4) == 0 ? odd() : 1 + random.nextInt(16));
        else if (choice < 12) change();
        else if (choice < 22) execute();
        else if (choice < 40) plan();
        else if (choice < 48) text();
        else ask();
    }

    private void program(int n) {
        same("clear(" + n + ")", x -> x.clear(n), m -> m.clear(n));
        if (n < 1 || n > 16) return;
        blocks = n;
        int bigness = random.nextInt(3);
        for (int b = 0; b < n; b++) {
            if (bigness > 0) setSize(b, bigness == 1 ? random.nextInt(12) : 30 + random.nextInt(31));
            end(b);
        }
        for (int i = random.nextInt(3); i > 0; i--) run(500);
    }

    /** Goes mostly forward, and back on conditions, so that many programs come to a stop. */
    private void end(int b) {
        int forward = b + 1 < blocks ? b + 1 + random.nextInt(Math.min(4, blocks - b - 1)) : b;
        int kind = random.nextInt(10);
        if (kind < 3 && forward != b) setGo(b, random.nextInt(12) == 0 ? random.nextInt(blocks) : forward);
        else if (kind < 9 && blocks > 1) condition(b, forward);
        else if (random.nextBoolean()) same("setStop(" + b + ")", x -> x.setStop(b), m -> m.setStop(b));
    }

    private void condition(int b, int forward) {
        int other = random.nextInt(blocks);
        boolean swapped = random.nextBoolean();
        int pattern = random.nextInt(3) == 0 ? 1 << random.nextInt(8) : random.nextInt();
        setIf(b, swapped ? forward : other, swapped ? other : forward, pattern);
    }

    private void setSize(int b, int size) {
        same("setSize(" + b + "," + size + ")", x -> x.setSize(b, size), m -> m.setSize(b, size));
    }

    private void setGo(int b, int to) {
        same("setGo(" + b + "," + to + ")", x -> x.setGo(b, to), m -> m.setGo(b, to));
    }

    private void setIf(int b, int i, int j, int pattern) {
        String call = "setIf(" + b + "," + i + "," + j + "," + pattern + ")";
        same(call, x -> x.setIf(b, i, j, pattern), m -> m.setIf(b, i, j, pattern));
    }

    private void run(int limit) {
        same("run(" + limit + ")", x -> x.run(limit), m -> m.run(limit));
    }

    private int odd() {
        return ODD[random.nextInt(ODD.length)];
    }

    private int someBlock() {
        return random.nextInt(25) == 0 ? (random.nextBoolean() ? blocks : odd()) : random.nextInt(blocks);
    }

    private int some(int bound) {
        return random.nextInt(25) == 0 ? (random.nextBoolean() ? bound : odd()) : random.nextInt(bound);
    }

    private void change() {
        int b = someBlock();
        switch (random.nextInt(7)) {
            case 0: setSize(b, some(61)); break;
            case 1: setGo(b, someBlock()); break;
            case 2: setIf(b, someBlock(), someBlock(), random.nextInt()); break;
            case 3: same("setStop(" + b + ")", x -> x.setStop(b), m -> m.setStop(b)); break;
            case 4: end(random.nextInt(blocks)); break;
            default: same("invert(" + b + ")", x -> x.invert(b), m -> m.invert(b)); break;
        }
    }

    private void execute() {
        int limit = random.nextInt(4) == 0 ? some(60) : 500 - random.nextInt(3);
        switch (random.nextInt(8)) {
            case 0: same("clearProfile()", x -> x.clearProfile(), m -> m.clearProfile()); break;
            case 1:
            case 2:
            case 3: same("runLayout(" + limit + ")", x -> x.runLayout(limit), m -> m.runLayout(limit)); break;
            default: run(limit); break;
        }
    }

    private void plan() {
        int i = someBlock();
        int j = someBlock();
        int alignment = random.nextInt(10) == 0 ? odd() : 1 << random.nextInt(6);
        int method = random.nextInt(30) == 0 ? odd() : random.nextInt(3);
        int limit = random.nextInt(20) == 0 ? odd() : random.nextInt(6) - 1;
        int count = random.nextInt(20) == 0 ? odd() : 1 + random.nextInt(blocks);
        int loopLimit = random.nextInt(20) == 0 ? odd() : random.nextInt(6);
        switch (random.nextInt(12)) {
            case 0: same("setAlignment(" + alignment + ")", x -> x.setAlignment(alignment), m -> m.setAlignment(alignment)); break;
            case 1: same("setLoopLimit(" + loopLimit + ")", x -> x.setLoopLimit(loopLimit), m -> m.setLoopLimit(loopLimit)); break;
            case 2:
            case 3:
            case 4: same("exchange(" + i + "," + j + ")", x -> x.exchange(i, j), m -> m.exchange(i, j)); break;
            case 5: same("setHot(" + count + ")", x -> x.setHot(count), m -> m.setHot(count)); break;
            case 6:
            case 7:
            case 8: undos(); break;
            default: same("arrange(" + method + "," + limit + ")", x -> x.arrange(method, limit), m -> m.arrange(method, limit));
        }
    }

    private void undos() {
        for (int i = random.nextInt(12) == 0 ? 11 : 1; i > 0; i--) same("undo()", x -> x.undo(), m -> m.undo());
    }

    private void text() {
        int b = someBlock();
        StringBuilder text = new StringBuilder().append(some(64)).append(' ');
        switch (random.nextInt(3)) {
            case 0: text.append("stop"); break;
            case 1: text.append("go ").append(someBlock()); break;
            default: text.append("if ").append(someBlock()).append(' ').append(someBlock()).append(' ');
                text.append(random.nextInt(3) == 0 ? random.nextInt(20000000) - 10000000 : random.nextInt(200) - 100);
        }
        if (random.nextInt(3) == 0) text.insert(random.nextInt(text.length() + 1), SIGNS.charAt(random.nextInt(SIGNS.length())));
        if (random.nextInt(3) == 0) text.setLength(random.nextInt(text.length() + 1));
        if (random.nextInt(40) == 0) text.append(" ".repeat(60));
        for (int i = 0; i < text.length(); i++) {
            char sign = text.charAt(i);
            same("feed('" + sign + "')", x -> x.feed(sign), m -> m.feed(sign));
        }
        same("read(" + b + ")", x -> x.read(b), m -> m.read(b));
    }

    private void ask() {
        int b = someBlock();
        int what = some(4);
        int property = some(8);
        int number = some(9);
        int i = some(Math.max(1, model.pathLength()));
        switch (random.nextInt(12)) {
            case 0: same("block(" + b + "," + property + ")", x -> x.block(b, property), m -> m.block(b, property)); break;
            case 1: same("pathLength()", x -> x.pathLength(), m -> m.pathLength()); break;
            case 2: same("pathBlock(" + i + ")", x -> x.pathBlock(i), m -> m.pathBlock(i)); break;
            case 3: same("order(" + b + ")", x -> x.order(b), m -> m.order(b)); break;
            case 4:
            case 5: same("place(" + b + "," + what + ")", x -> x.place(b, what), m -> m.place(b, what)); break;
            case 6:
            case 7: same("end(" + b + "," + what + ")", x -> x.end(b, what), m -> m.end(b, what)); break;
            case 8: same("cycles()", x -> x.cycles(), m -> m.cycles()); break;
            case 9: same("meanCycles()", x -> x.meanCycles(), m -> m.meanCycles()); break;
            case 10: same("bestAlignment()", x -> x.bestAlignment(), m -> m.bestAlignment()); break;
            default: same("layout(" + number + ")", x -> x.layout(number), m -> m.layout(number)); break;
        }
    }
}
