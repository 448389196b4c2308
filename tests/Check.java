import java.nio.charset.StandardCharsets;

/** Counts the checks of one test class, prints those that fail, and ends the program accordingly. */
final class Check {
    /** A call that may throw. */
    interface Call {
        long answer();
    }

    private final String test;
    private int checks;
    private int wrong;

    Check(String test) {
        this.test = test;
    }

    void is(String what, long due, long got) {
        report(what, due == got, String.valueOf(due), String.valueOf(got));
    }

    void isReal(String what, double due, double got) {
        report(what, due == got, String.valueOf(due), String.valueOf(got));
    }

    void isText(String what, String due, String got) {
        report(what, due.equals(got), due, got);
    }

    /** The exception must be of exactly this class: the Java machine's own are of classes below. */
    void fails(String what, Class<? extends RuntimeException> due, Call call) {
        String got;
        boolean good = false;
        try {
            got = String.valueOf(call.answer());
        } catch (RuntimeException e) {
            got = e.toString();
            good = e.getClass() == due;
        }
        report(what, good, due.getName(), got);
    }

    void noIndex(String what, Call call) {
        fails(what, IndexOutOfBoundsException.class, call);
    }

    void noArgument(String what, Call call) {
        fails(what, IllegalArgumentException.class, call);
    }

    void noState(String what, Call call) {
        fails(what, IllegalStateException.class, call);
    }

    private void report(String what, boolean good, String due, String got) {
        checks++;
        if (!good) {
            wrong++;
            System.out.println(test + ": " + what + " answered " + got + ", due is " + due);
        }
    }

    void end() {
        System.out.println(test + ": " + checks + " checks, " + wrong + " wrong");
        if (wrong != 0 || checks == 0) {
            System.exit(1);
        }
    }

    /** Feeds a whole text, twenty bytes a call, and returns the last answer. */
    static int feed(PennyBakery bakery, String text) {
        byte[] bytes = text.getBytes(StandardCharsets.ISO_8859_1);
        int at = 0;
        int answer;
        do {
            answer = bakery.feed(word(bytes, at), word(bytes, at + 4), word(bytes, at + 8),
                    word(bytes, at + 12), word(bytes, at + 16));
            at += 20;
        } while (at < bytes.length);
        return answer;
    }

    private static int word(byte[] bytes, int at) {
        int word = 0;
        for (int i = 0; i < 4; i++) {
            word = word << 8 | (at + i < bytes.length ? bytes[at + i] & 255 : 0);
        }
        return word;
    }

    static int load(PennyBakery bakery, String setup) {
        feed(bakery, setup);
        return bakery.loadSetup();
    }

    static int run(PennyBakery bakery, String script) {
        feed(bakery, script);
        return bakery.runScript();
    }

    /** A new bakery of a setup that must be right. */
    static PennyBakery bakery(String setup) {
        PennyBakery bakery = new PennyBakery();
        if (load(bakery, setup) < 0) {
            throw new IllegalArgumentException("not a setup: " + setup + " at " + bakery.errorPosition());
        }
        return bakery;
    }

    static String output(PennyBakery bakery) {
        StringBuilder text = new StringBuilder();
        int next = bakery.outputByte(0);
        while (next != PennyBakery.NONE) {
            text.append((char) next);
            next = bakery.outputByte(text.length());
        }
        return text.toString();
    }

    /**
     * All that the calls without parameters and the getters tell of the state, in one text: some 115 calls on
     * a new object. Each call is made once, because an object is promised to answer 512 of them and no more.
     */
    static String stateOf(PennyBakery b) {
        return goodsOf(b) + batchesOf(b);
    }

    /** The state but for the single batches. */
    static String goodsOf(PennyBakery b) {
        StringBuilder text = new StringBuilder();
        int flours = b.flourCount();
        int breads = b.breadCount();
        int ovens = b.ovenCount();
        add(text, "counts", flours, breads, ovens);
        add(text, "money", b.clock(), b.cash(), b.income(), b.spentOnFlour(), b.spentOnOvens(), b.flourValue(), b.loafValue());
        add(text, "gaps", b.totalLoss(), b.worstBatch(), b.worstKind(), b.consistencyError());
        add(text, "kinds", b.gapSum(0), b.gapSum(1), b.gapSum(2), b.gapSum(3), b.gapSum(4), b.gapSum(5));
        text.append(" mean ").append(b.meanLoss()).append(" burnt ").append(b.burntShare()).append('\n');
        for (int flour = 0; flour < flours; flour++) {
            int lots = b.lotsOf(flour);
            add(text, "flour", b.flourPrice(flour), b.unitsOf(flour), lots, b.priceGap(flour), b.useGap(flour));
            for (int lot = 0; lot < lots; lot++) {
                add(text, "lot", b.lotUnits(flour, lot), b.lotPrice(flour, lot));
            }
        }
        for (int bread = 0; bread < breads; bread++) {
            add(text, "bread", b.listPrice(bread), b.minutesOf(bread), b.standardCost(bread), b.loavesOf(bread),
                    b.possibleLoaves(bread), b.bestWait(bread, 1), b.bestWait(bread, 20));
            for (int flour = 0; flour < flours; flour++) {
                add(text, "amount", b.amountOf(bread, flour));
            }
        }
        add(text, "ovens", b.nextOven(), b.standardRate());
        for (int oven = 0; oven < ovens; oven++) {
            add(text, "oven", b.freeAt(oven));
        }
        for (int hour = 0; hour < 24; hour++) {
            add(text, "rate", b.rateAt(hour));
        }
        return text.toString();
    }

    /** What the single batches tell. */
    static String batchesOf(PennyBakery b) {
        StringBuilder text = new StringBuilder();
        int batches = b.batchCount();
        add(text, "batches", batches);
        for (int batch = 0; batch < batches; batch++) {
            add(text, "batch", b.batchBread(batch), b.goodLoaves(batch), b.startOf(batch), b.ovenMinutes(batch), b.costOf(batch),
                    b.lossOf(batch), b.gapOf(batch, 0), b.gapOf(batch, 1), b.gapOf(batch, 2), b.gapOf(batch, 3), b.gapOf(batch, 4));
        }
        return text.toString();
    }

    private static void add(StringBuilder text, String name, int... values) {
        text.append(name);
        for (int value : values) {
            text.append(' ').append(value);
        }
        text.append('\n');
    }
}
