import java.util.NoSuchElementException;

/** Promises 61 to 65: undo, saved states, output. */
final class UndoAndOutputTest {
    private static final Check CHECK = new Check("UndoAndOutputTest");

    /** A change of a bakery. */
    private interface Change {
        void on(PennyBakery b);
    }

    public static void main(String[] args) {
        promise61();
        undoOfEachChange();
        promise62();
        promise63();
        restoreBringsBackAll();
        promise64();
        promise65();
        CHECK.end();
    }

    private static void promise61() {
        CHECK.noState("nothing to undo", () -> new PennyBakery().undo());
        for (int undone = 0; undone <= 8; undone++) {
            PennyBakery b = waited(12);
            for (int i = 1; i <= undone; i++) {
                CHECK.is("left", 8 - i, b.undo());
            }
            CHECK.isText("state", Check.stateOf(waited(12 - undone)), Check.stateOf(b));
        }
        PennyBakery b = waited(12);
        for (int i = 0; i < 8; i++) {
            b.undo();
        }
        CHECK.noState("the oldest changes cannot be undone", b::undo);
        String before = Check.stateOf(waited(4));
        CHECK.isText("nothing changes", before, Check.stateOf(b));
        b.waitMinutes(20);
        b.waitMinutes(30);
        CHECK.is("left", 1, b.undo());
        b.waitMinutes(40);
        CHECK.is("left", 1, b.undo());
        CHECK.is("left", 0, b.undo());
        CHECK.isText("state", before, Check.stateOf(b));
        CHECK.noState("nothing to undo", b::undo);
    }

    /** A new bakery that waited 1 minute, 2 minutes and so on. */
    private static PennyBakery waited(int times) {
        PennyBakery b = new PennyBakery();
        for (int i = 1; i <= times; i++) {
            b.waitMinutes(i);
        }
        return b;
    }

    private static void undoOfEachChange() {
        undone("addFlour", b -> b.addFlour(9));
        undone("addBread", b -> b.addBread(9, 9, 99));
        undone("buy", b -> b.buy(0, 9, 9));
        undone("setRate", b -> b.setRate(5, 9));
        undone("bake", b -> b.bake(1, 5, 2, 3, 4));
        undone("bake with all units", b -> b.bake(0, 8, 0, 0, 0));
        undone("sell", b -> b.sell(1, 2, 9));
        undone("waitMinutes", b -> b.waitMinutes(9));
        undone("runScript", b -> Check.run(b,
                "flour 1;flour 2;bread 1 1 1111;buy 3 4 5;rate 0 0;bake 0 2 late 4;sell 0 3 3;wait 77;"));
        PennyBakery b = new PennyBakery();
        b.writeBatch(1);
        b.bake(0, 1, 0, 0, 0);
        Check.feed(b, "wait 5;");
        b.undo();
        CHECK.isText("undo leaves the output", "p36 r26 t6", Check.output(b));
        CHECK.is("undo leaves the input", 7, b.feed(0, 0, 0, 0, 0));
    }

    private static void undone(String name, Change change) {
        PennyBakery b = new PennyBakery();
        String before = Check.stateOf(b);
        change.on(b);
        CHECK.is(name + " is a change", 1, b.undoCount());
        CHECK.is(name + " can be undone", 0, b.undo());
        CHECK.isText(name + " undone", before, Check.stateOf(b));
    }

    private static void promise62() {
        PennyBakery b = new PennyBakery();
        CHECK.is("cash", 1042, b.save(0));
        b.buy(0, 1, 42);
        CHECK.is("cash", 1000, b.save(1));
        CHECK.is("not a change", 1, b.undoCount());
        CHECK.is("undo", 0, b.undo());
        CHECK.is("undo leaves the saved states", 1000, b.restore(1));
        CHECK.is("the other slot", 1042, b.restore(0));
        b.buy(0, 1, 2);
        CHECK.is("replaced", 1040, b.save(0));
        b.waitMinutes(1);
        CHECK.is("replaced", 1040, b.restore(0));
        CHECK.noArgument("slot 2", () -> b.save(2));
        CHECK.noArgument("slot -1", () -> b.save(-1));
        CHECK.noArgument("least slot", () -> b.save(Integer.MIN_VALUE));
        b.bake(0, 1, 0, 0, 0);
        b.save(1);
        b.bake(0, 1, 0, 0, 0);
        b.restore(1);
        CHECK.is("a copy", 3, b.batchCount());
        PennyBakery poor = Check.bakery("bakery 0 3 1;flour 1;bread 9 9 1;");
        poor.bake(0, 1, 0, -1, 0);
        CHECK.is("cash less than 0", -27, poor.save(0));
    }

    private static void promise63() {
        PennyBakery b = new PennyBakery();
        CHECK.noArgument("slot 2", () -> b.restore(2));
        CHECK.noArgument("slot -1", () -> b.restore(-1));
        CHECK.fails("slot 0", NoSuchElementException.class, () -> b.restore(0));
        CHECK.fails("slot 1", NoSuchElementException.class, () -> b.restore(1));
        b.save(1);
        String before = Check.stateOf(b);
        CHECK.fails("slot 0", NoSuchElementException.class, () -> b.restore(0));
        b.writeBatch(0);
        Check.run(b, "wait 5;bake 0 2;sell 0 1 9;");
        b.sell(0, 1, 9);
        Check.feed(b, "wait");
        CHECK.is("cash", 1042, b.restore(1));
        CHECK.isText("state", before, Check.stateOf(b));
        CHECK.is("no change to undo", 0, b.undoCount());
        CHECK.noState("no change to undo", b::undo);
        CHECK.is("the input stays", 4, b.feed(0, 0, 0, 0, 0));
        CHECK.isText("the output stays", "p26 u20 b46", Check.output(b));
        b.waitMinutes(9);
        b.buy(1, 1, 1);
        CHECK.is("it stays saved", 1042, b.restore(1));
        CHECK.isText("state", before, Check.stateOf(b));
        b.waitMinutes(3);
        CHECK.is("changes count anew", 0, b.undo());
        CHECK.isText("state", before, Check.stateOf(b));
    }

    private static void restoreBringsBackAll() {
        PennyBakery before = someBatches();
        PennyBakery after = someBatches();
        someChanges(after);
        PennyBakery b = someBatches();
        b.save(0);
        someChanges(b);
        b.save(1);
        b.restore(0);
        CHECK.isText("before", Check.stateOf(before), Check.stateOf(b));
        b.restore(1);
        CHECK.isText("after", Check.stateOf(after), Check.stateOf(b));
    }

    private static PennyBakery someBatches() {
        PennyBakery b = Check.bakery("bakery 5000 2 3;flour 10;flour 20;bread 90 3 21;buy 0 50 11;buy 1 50 19;");
        Check.run(b, "bake 0 4 burnt 1 more 2 late 3;rate 0 7;wait 3;bake 0 3;sell 0 2 80;");
        return b;
    }

    private static void someChanges(PennyBakery b) {
        Check.run(b, "flour 1;flour 2;flour 3;flour 4;bread 2 2 999999;bread 3 3 111111;rate 5 5;rate 23 1;"
                + "buy 0 9 9;buy 1 9 9;buy 2 9 9;bake 0 9 burnt 9 less 9 early 9;bake 0 1;bake 0 1;wait 999;sell 0 3 1;");
        CHECK.is("the script was good", 0, b.errorCode());
    }

    private static void promise64() {
        PennyBakery b = new PennyBakery();
        CHECK.is("length", 11, b.writeBatch(0));
        CHECK.isText("text", "p26 u20 b46", Check.output(b));
        CHECK.is("replaced by a shorter one", 10, b.writeBatch(1));
        CHECK.isText("text", "p36 r26 t6", Check.output(b));
        CHECK.is("no change", 0, b.undoCount());
        CHECK.noIndex("batch 2", () -> b.writeBatch(2));
        CHECK.noIndex("batch -1", () -> b.writeBatch(-1));
        CHECK.isText("the output stays", "p36 r26 t6", Check.output(b));
        Check.load(b, "bakery 999 3 1;flour 10;bread 1 1 1;buy 0 10 10;buy 0 20 8;buy 0 9 9;rate 0 0;bake 0 10;rate 0 3;bake 0 1;"
                + "rate 0 1;bake 0 9 burnt 9 less 9 early 8;");
        CHECK.is("one gap", 4, b.writeBatch(0));
        CHECK.isText("text", "r-30", Check.output(b));
        CHECK.is("prices", 3, b.writeBatch(1));
        CHECK.isText("text", "p-2", Check.output(b));
        CHECK.is("four gaps", 18, b.writeBatch(2));
        CHECK.isText("text", "u-90 r-2 t-24 b117", Check.output(b));
    }

    private static void promise65() {
        PennyBakery b = new PennyBakery();
        CHECK.is("empty", -1, b.outputByte(0));
        b.writeBatch(0);
        int[] due = {112, 50, 54, 32, 117, 50, 48, 32, 98, 52, 54};
        for (int i = 0; i < due.length; i++) {
            CHECK.is("byte " + i, due[i], b.outputByte(i));
        }
        CHECK.is("not less than the length", -1, b.outputByte(11));
        CHECK.is("far", -1, b.outputByte(Integer.MAX_VALUE));
        CHECK.is("negative", -1, b.outputByte(-1));
        CHECK.is("least", -1, b.outputByte(Integer.MIN_VALUE));
        b.bake(1, 2, 1, -3, -4);
        b.writeBatch(2);
        CHECK.is("minus sign", 45, b.outputByte(Check.output(b).indexOf('u') + 1));
        CHECK.is("t", 116, b.outputByte(Check.output(b).indexOf('t')));
        b.writeBatch(1);
        CHECK.is("r", 114, b.outputByte(4));
        Check.load(b, "bakery 999 3 1;flour 10;bread 1 1 1;buy 0 10 10;bake 0 3;");
        CHECK.is("no gaps", 0, b.writeBatch(0));
        CHECK.is("no bytes", -1, b.outputByte(0));
    }
}
