import java.util.NoSuchElementException;
import java.util.function.Supplier;

/**
 * Bakeries with something in all their corners, and texts that tell all that a bakery keeps: what can be
 * asked for, the buffers, the reported error, the changes that can be undone and the saved states. Two
 * bakeries that were made alike answer alike, unless a call on one of them changed something.
 */
final class Scene {
    private Scene() {
    }

    /** Ten changes, of which 8 can be undone, two saved states, an error, and both buffers in use. */
    static PennyBakery busy() {
        PennyBakery b = new PennyBakery();
        b.waitMinutes(1);
        b.save(0);
        b.setRate(5, 7);
        b.buy(1, 9, 20);
        b.save(1);
        b.addFlour(30);
        b.addBread(300, 2, 120);
        b.buy(2, 9, 31);
        b.bake(0, 2, 1, -1, 2);
        b.sell(1, 1, 260);
        b.waitMinutes(40);
        b.bake(1, 1, 0, 0, 0);
        b.writeBatch(0);
        Check.run(b, "wait 0;");
        Check.feed(b, "wait 5");
        return b;
    }

    /** Nothing that could be counted; no state is saved. */
    static PennyBakery empty() {
        return Check.bakery("bakery 0 0 1;");
    }

    /** As many flours, breads, batches and lots as there may be, and an input buffer of 700 bytes. */
    static PennyBakery full() {
        PennyBakery b = Check.bakery("bakery 99999 3 3;" + "flour 9;".repeat(6) + "bread 9 1 1;".repeat(6)
                + "buy 0 99 9;" + "buy 0 1 9;".repeat(11));
        Check.run(b, "bake 0 1;".repeat(12));
        Check.run(b, "bake 1 1;".repeat(12));
        for (int i = 0; i < 8; i++) {
            b.setRate(i, 20 - i);
        }
        b.save(0);
        b.save(1);
        Check.feed(b, "wait 5;" + " ".repeat(693));
        return b;
    }

    /**
     * All that a bakery keeps. An object is promised to answer 512 calls and no more, so several are made alike
     * and each tells a part.
     */
    static String all(Supplier<PennyBakery> made) {
        return texts(made.get()) + kept(made);
    }

    /** All but the input buffer and the reported error. */
    static String kept(Supplier<PennyBakery> made) {
        return Check.goodsOf(made.get()) + Check.batchesOf(made.get()) + former(made.get());
    }

    /** The input buffer and the reported error. */
    private static String texts(PennyBakery b) {
        StringBuilder text = new StringBuilder("error ").append(b.errorCode()).append(" at ").append(b.errorPosition());
        text.append(" input ").append(b.feed(0, 0, 0, 0, 0));
        b.feed(';' << 24, 0, 0, 0, 0);
        text.append(" script ").append(b.runScript()).append(" clock ").append(b.clock()).append('\n');
        return text.toString();
    }

    /** The output buffer, the changes that can be undone, and the saved states. */
    private static String former(PennyBakery b) {
        StringBuilder text = new StringBuilder("output ").append(Check.output(b)).append('\n');
        for (int left = b.undoCount(); left > 0; left--) {
            text.append("undo ").append(b.undo()).append(brief(b));
        }
        for (int slot = 0; slot < 2; slot++) {
            text.append("slot ").append(slot).append(restored(b, slot)).append(brief(b));
        }
        return text.toString();
    }

    private static String restored(PennyBakery b, int slot) {
        try {
            return " cash " + b.restore(slot);
        } catch (NoSuchElementException e) {
            return " nothing";
        }
    }

    /** Few answers, but enough to tell apart the states between the changes of a scene. */
    private static String brief(PennyBakery b) {
        return " clock " + b.clock() + " cash " + b.cash() + " counts " + b.flourCount() + b.breadCount() + b.batchCount()
                + " rates " + b.rateAt(5) + ' ' + b.rateAt(7) + " loss " + b.totalLoss() + '\n';
    }
}
