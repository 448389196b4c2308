/** Promise 1, and what the calls without parameters answer on a new object. */
final class NewObjectTest {
    private static final Check CHECK = new Check("NewObjectTest");
    private static final String SETUP = "bakery 2000 2 2; flour 10; flour 25; bread 150 3 4; bread 240 5 23; "
            + "buy 0 40 11; buy 0 30 9; buy 1 20 28; rate 1 4; bake 0 6 burnt 1 more 2; wait 50; "
            + "bake 1 4 late 3; sell 0 3 140;";

    public static void main(String[] args) {
        constants();
        promise1();
        CHECK.end();
    }

    private static void constants() {
        CHECK.is("NONE", -1, PennyBakery.NONE);
        CHECK.is("PRICE", 0, PennyBakery.PRICE);
        CHECK.is("USE", 1, PennyBakery.USE);
        CHECK.is("RATE", 2, PennyBakery.RATE);
        CHECK.is("TIME", 3, PennyBakery.TIME);
        CHECK.is("BURNT", 4, PennyBakery.BURNT);
        CHECK.is("SALES", 5, PennyBakery.SALES);
    }

    private static void promise1() {
        PennyBakery bakery = new PennyBakery();
        CHECK.isText("the new state", Check.stateOf(Check.bakery(SETUP)), Check.stateOf(bakery));
        CHECK.is("cash", 1042, bakery.cash());
        CHECK.is("clock", 50, bakery.clock());
        CHECK.is("batches", 2, bakery.batchCount());
        CHECK.is("total loss", 190, bakery.totalLoss());
        CHECK.is("nothing to undo", 0, bakery.undoCount());
        CHECK.noState("undo", bakery::undo);
        CHECK.is("the input buffer is empty", 0, bakery.feed(0, 0, 0, 0, 0));
        CHECK.is("the output buffer is empty", -1, bakery.outputByte(0));
        CHECK.is("no error", 0, bakery.errorCode());
        CHECK.is("no error position", -1, bakery.errorPosition());
        for (int slot = 0; slot < 2; slot++) {
            int empty = slot;
            CHECK.fails("slot " + slot, java.util.NoSuchElementException.class, () -> bakery.restore(empty));
        }
        PennyBakery other = new PennyBakery();
        other.waitMinutes(7);
        CHECK.is("objects do not share a state", 50, bakery.clock());
    }
}
