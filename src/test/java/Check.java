/** Compares answers with what is due, and counts the wrong ones. */
final class Check {
    interface Call {
        Object answer();
    }

    private final String test;
    private int checked;
    private int wrong;

    Check(String test) {
        this.test = test;
    }

    void due(String what, Object got, Object want) {
        checked++;
        if (!got.equals(want)) {
            wrong++;
            System.out.println(test + ": " + what + " answered " + got + ", due is " + want);
        }
    }

    /** The call throws exactly this class, not one below it; Edges looks at the state behind such calls. */
    void fails(String what, Class<?> exception, Call call) {
        due(what, outcome(call), exception.getSimpleName());
    }

    static Object outcome(Call call) {
        try {
            return call.answer();
        } catch (RuntimeException e) {
            return e.getClass().getSimpleName();
        }
    }

    /** All that an object answers without being changed; meant for small programs. */
    static String seen(BlockLayout x) {
        StringBuilder all = new StringBuilder();
        for (int b = 0; b < 16 && hasBlock(x, b); b++) {
            for (int what = 0; what <= 7; what++) all.append(x.block(b, what)).append(' ');
            for (int what = 0; what <= 3; what++) all.append(x.place(b, what)).append(' ');
            for (int what = 0; what <= 3; what++) all.append(x.end(b, what)).append(' ');
            all.append("at ").append(x.order(b)).append('\n');
        }
        for (int what = 0; what <= 8; what++) all.append(x.layout(what)).append(' ');
        all.append(Edges.shortPath(x)).append(" cycles ").append(x.cycles()).append(" best ").append(x.bestAlignment());
        return all.toString();
    }

    static boolean hasBlock(BlockLayout x, int block) {
        return outcome(() -> x.order(block)) instanceof Integer;
    }

    static String order(BlockLayout x) {
        StringBuilder row = new StringBuilder();
        for (int i = 0; i < 16 && hasBlock(x, i); i++) row.append(i == 0 ? "" : " ").append(x.order(i));
        return row.toString();
    }

    static String path(BlockLayout x) {
        StringBuilder row = new StringBuilder();
        for (int i = 0; i < x.pathLength(); i++) row.append(i == 0 ? "" : " ").append(x.pathBlock(i));
        return row.toString();
    }

    static void feed(BlockLayout x, String text) {
        for (int i = 0; i < text.length(); i++) x.feed(text.charAt(i));
    }

    void finish() {
        System.out.println(test + ": " + checked + " checks, " + wrong + " wrong");
        if (wrong != 0 || checked == 0) System.exit(1);
    }
}
