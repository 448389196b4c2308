import java.util.NoSuchElementException;
import java.util.function.Supplier;

/**
 * Each refused call: which exception it throws, which one if several apply ("If several exceptions apply to
 * a call, the one that is listed first is thrown"), and that nothing has changed ("A method that throws an
 * exception changes nothing"). A bakery on which the call was refused is compared with one that was made
 * alike and got no such call, in all that it keeps.
 */
final class RefusalTest {
    private static final Check CHECK = new Check("RefusalTest");
    private static final Class<? extends RuntimeException> INDEX = IndexOutOfBoundsException.class;
    private static final Class<? extends RuntimeException> ARGUMENT = IllegalArgumentException.class;
    private static final Class<? extends RuntimeException> STATE = IllegalStateException.class;
    private static final Class<? extends RuntimeException> NOTHING = NoSuchElementException.class;
    private static final int LEAST = Integer.MIN_VALUE;
    private static final int GREATEST = Integer.MAX_VALUE;

    /** A call that is refused. */
    private interface Call {
        long on(PennyBakery b);
    }

    private final String name;
    private final Supplier<PennyBakery> scene;
    private final String due;

    private RefusalTest(String name, Supplier<PennyBakery> scene) {
        this.name = name;
        this.scene = scene;
        this.due = Scene.all(scene);
    }

    public static void main(String[] args) {
        RefusalTest busy = new RefusalTest("busy", Scene::busy);
        busy.questions(3, 3, 4, 2);
        busy.lots();
        busy.predictions();
        busy.changes();
        busy.order();
        busy.slotsAndOutput();
        RefusalTest empty = new RefusalTest("empty", Scene::empty);
        empty.questions(0, 0, 0, 1);
        empty.nothingThere();
        RefusalTest full = new RefusalTest("full", Scene::full);
        full.questions(6, 6, 24, 3);
        full.noRoom();
        CHECK.end();
    }

    private void refused(String what, Class<? extends RuntimeException> exception, Call call) {
        String title = name + ": " + what;
        String got = Scene.all(() -> {
            PennyBakery b = scene.get();
            CHECK.fails(title, exception, () -> call.on(b));
            CHECK.fails(title + " again", exception, () -> call.on(b));
            return b;
        });
        CHECK.isText(title + " changes nothing", due, got);
    }

    /** "if there is no such flour", "bread", "oven", "batch"; "if hour is out of range", "if kind is out of range" */
    private void questions(int flours, int breads, int batches, int ovens) {
        for (int flour : new int[] {LEAST, -1, flours, flours + 1, 7, GREATEST}) {
            refused("flourPrice " + flour, INDEX, b -> b.flourPrice(flour));
            refused("unitsOf " + flour, INDEX, b -> b.unitsOf(flour));
            refused("lotsOf " + flour, INDEX, b -> b.lotsOf(flour));
            refused("lotUnits " + flour, INDEX, b -> b.lotUnits(flour, 0));
            refused("lotPrice " + flour, INDEX, b -> b.lotPrice(flour, 0));
            refused("amountOf 0 " + flour, INDEX, b -> b.amountOf(0, flour));
            refused("priceGap " + flour, INDEX, b -> b.priceGap(flour));
            refused("useGap " + flour, INDEX, b -> b.useGap(flour));
            refused("buy " + flour, INDEX, b -> b.buy(flour, 1, 1));
        }
        for (int bread : new int[] {LEAST, -1, breads, breads + 1, 7, GREATEST}) {
            refused("listPrice " + bread, INDEX, b -> b.listPrice(bread));
            refused("minutesOf " + bread, INDEX, b -> b.minutesOf(bread));
            refused("amountOf " + bread, INDEX, b -> b.amountOf(bread, 0));
            refused("standardCost " + bread, INDEX, b -> b.standardCost(bread));
            refused("loavesOf " + bread, INDEX, b -> b.loavesOf(bread));
            refused("bakeObstacle " + bread, INDEX, b -> b.bakeObstacle(bread, 1, 0, 0));
            refused("lossIfBaked " + bread, INDEX, b -> b.lossIfBaked(bread, 1));
            refused("possibleLoaves " + bread, INDEX, b -> b.possibleLoaves(bread));
            refused("bestWait " + bread, INDEX, b -> b.bestWait(bread, 1));
            refused("bake " + bread, INDEX, b -> b.bake(bread, 1, 0, 0, 0));
            refused("sell " + bread, INDEX, b -> b.sell(bread, 1, 1));
        }
        for (int batch : new int[] {LEAST, -1, batches, batches + 1, 25, GREATEST}) {
            refused("batchBread " + batch, INDEX, b -> b.batchBread(batch));
            refused("goodLoaves " + batch, INDEX, b -> b.goodLoaves(batch));
            refused("startOf " + batch, INDEX, b -> b.startOf(batch));
            refused("ovenMinutes " + batch, INDEX, b -> b.ovenMinutes(batch));
            refused("costOf " + batch, INDEX, b -> b.costOf(batch));
            refused("lossOf " + batch, INDEX, b -> b.lossOf(batch));
            refused("gapOf " + batch, INDEX, b -> b.gapOf(batch, 0));
            refused("gapOf a wrong kind of " + batch, INDEX, b -> b.gapOf(batch, 5));
            refused("kindAt " + batch, INDEX, b -> b.kindAt(batch, 0));
            refused("kindAt no place of " + batch, INDEX, b -> b.kindAt(batch, 5));
            refused("writeBatch " + batch, INDEX, b -> b.writeBatch(batch));
        }
        for (int oven : new int[] {LEAST, -1, ovens, ovens + 1, 4, GREATEST}) {
            refused("freeAt " + oven, INDEX, b -> b.freeAt(oven));
        }
        for (int hour : new int[] {LEAST, -1, 24, 25, GREATEST}) {
            refused("rateAt " + hour, ARGUMENT, b -> b.rateAt(hour));
            refused("setRate " + hour, ARGUMENT, b -> b.setRate(hour, 1));
        }
        for (int kind : new int[] {LEAST, -1, 6, 7, GREATEST}) {
            refused("gapSum " + kind, ARGUMENT, b -> b.gapSum(kind));
        }
    }

    /** lotUnits, lotPrice: "if there is no such flour or no such lot"; gapOf: "if kind is out of range" */
    private void lots() {
        int lots = Scene.busy().lotsOf(0);
        for (int lot : new int[] {LEAST, -1, lots, lots + 1, 12, 13, GREATEST}) {
            refused("lotUnits 0 " + lot, INDEX, b -> b.lotUnits(0, lot));
            refused("lotPrice 0 " + lot, INDEX, b -> b.lotPrice(0, lot));
            refused("lotUnits 3 " + lot, INDEX, b -> b.lotUnits(3, lot));
            refused("lotPrice -1 " + lot, INDEX, b -> b.lotPrice(-1, lot));
        }
        for (int kind : new int[] {LEAST, -1, 5, 6, GREATEST}) {
            refused("gapOf 0 " + kind, ARGUMENT, b -> b.gapOf(0, kind));
            refused("gapOf 3 " + kind, ARGUMENT, b -> b.gapOf(3, kind));
        }
    }

    private void predictions() {
        for (int loaves : new int[] {LEAST, -1, 0, 21, 22, GREATEST}) {
            refused("bakeObstacle of " + loaves, ARGUMENT, b -> b.bakeObstacle(0, loaves, 0, 0));
            refused("lossIfBaked of " + loaves, ARGUMENT, b -> b.lossIfBaked(0, loaves));
            refused("bestWait of " + loaves, ARGUMENT, b -> b.bestWait(0, loaves));
        }
        for (int wrong : new int[] {LEAST, -11, -10, 10, 11, GREATEST}) {
            refused("bakeObstacle with " + wrong, ARGUMENT, b -> b.bakeObstacle(0, 1, wrong, 0));
            refused("bakeObstacle late " + wrong, ARGUMENT, b -> b.bakeObstacle(0, 1, 0, wrong));
        }
        refused("lossIfBaked of too many", STATE, b -> b.lossIfBaked(1, 20));
    }

    private void changes() {
        for (int price : new int[] {LEAST, -1, 0, 100, 101, GREATEST}) {
            refused("addFlour " + price, ARGUMENT, b -> b.addFlour(price));
            refused("buy for " + price, ARGUMENT, b -> b.buy(0, 1, price));
            refused("buy " + price + " units", ARGUMENT, b -> b.buy(0, price, 1));
            refused("sell " + price + " loaves", ARGUMENT, b -> b.sell(0, price, 1));
        }
        for (int price : new int[] {LEAST, -1, 0, 1000, 1001, GREATEST}) {
            refused("addBread for " + price, ARGUMENT, b -> b.addBread(price, 1, 1));
            refused("sell for " + price, ARGUMENT, b -> b.sell(0, 1, price));
            refused("waitMinutes " + price, ARGUMENT, b -> b.waitMinutes(price));
        }
        for (int minutes : new int[] {LEAST, -1, 0, 10, 11, GREATEST}) {
            refused("addBread of minutes " + minutes, ARGUMENT, b -> b.addBread(1, minutes, 1));
        }
        for (int recipe : new int[] {LEAST, -1, 0, 1000, 1001, 999999, 1000000, 1000001, GREATEST}) {
            refused("addBread of recipe " + recipe, ARGUMENT, b -> b.addBread(1, 1, recipe));
        }
        for (int rate : new int[] {LEAST, -1, 21, 22, GREATEST}) {
            refused("setRate 0 " + rate, ARGUMENT, b -> b.setRate(0, rate));
            refused("setRate 23 " + rate, ARGUMENT, b -> b.setRate(23, rate));
        }
        for (int loaves : new int[] {LEAST, -1, 0, 21, 22, GREATEST}) {
            refused("bake " + loaves, ARGUMENT, b -> b.bake(0, loaves, 0, 0, 0));
        }
        for (int burnt : new int[] {LEAST, -1, 2, 3, 20, GREATEST}) {
            refused("bake burnt " + burnt, ARGUMENT, b -> b.bake(0, 1, burnt, 0, 0));
        }
        for (int wrong : new int[] {LEAST, -11, -10, 10, 11, GREATEST}) {
            refused("bake with " + wrong, ARGUMENT, b -> b.bake(0, 1, 0, wrong, 0));
            refused("bake late " + wrong, ARGUMENT, b -> b.bake(0, 1, 0, 0, wrong));
        }
        refused("buy too dear", STATE, b -> b.buy(0, 99, 99));
        refused("bake with too few units", STATE, b -> b.bake(1, 20, 0, 0, 0));
        refused("bake without units", STATE, b -> b.bake(0, 1, 0, -5, 0));
        refused("bake without minutes", STATE, b -> b.bake(0, 1, 0, 0, -3));
        refused("sell one too many", STATE, b -> b.sell(0, b.loavesOf(0) + 1, 1));
    }

    /** "If several exceptions apply to a call, the one that is listed first is thrown." */
    private void order() {
        refused("gapOf: batch and kind", INDEX, b -> b.gapOf(4, 5));
        refused("bakeObstacle: bread and all others", INDEX, b -> b.bakeObstacle(3, 0, 10, 10));
        refused("lossIfBaked: bread and loaves", INDEX, b -> b.lossIfBaked(3, 21));
        refused("lossIfBaked: loaves and an obstacle", ARGUMENT, b -> b.lossIfBaked(1, 21));
        refused("bestWait: bread and loaves", INDEX, b -> b.bestWait(3, 0));
        refused("buy: flour and units", INDEX, b -> b.buy(3, 0, 1));
        refused("buy: flour and price", INDEX, b -> b.buy(-1, 1, 100));
        refused("buy: flour and cash", INDEX, b -> b.buy(3, 99, 99));
        refused("buy: units and cash", ARGUMENT, b -> b.buy(0, 100, 99));
        refused("buy: price and cash", ARGUMENT, b -> b.buy(0, 99, 100));
        refused("buy: all", INDEX, b -> b.buy(3, 100, 100));
        refused("bake: bread and loaves", INDEX, b -> b.bake(3, 0, 0, 0, 0));
        refused("bake: bread and burnt", INDEX, b -> b.bake(-1, 1, 2, 0, 0));
        refused("bake: loaves and an obstacle", ARGUMENT, b -> b.bake(1, 21, 0, 0, 0));
        refused("bake: burnt and an obstacle", ARGUMENT, b -> b.bake(1, 20, 21, 0, 0));
        refused("bake: burnt and no units", ARGUMENT, b -> b.bake(0, 1, -1, -9, 0));
        refused("bake: extra and an obstacle", ARGUMENT, b -> b.bake(1, 20, 0, 10, 0));
        refused("bake: late and an obstacle", ARGUMENT, b -> b.bake(0, 1, 0, -9, -10));
        refused("bake: all", INDEX, b -> b.bake(3, 21, 22, 10, 10));
        refused("sell: bread and loaves", INDEX, b -> b.sell(3, 0, 1));
        refused("sell: bread and price", INDEX, b -> b.sell(-1, 1, 0));
        refused("sell: loaves and too few of them", ARGUMENT, b -> b.sell(0, 100, 1));
        refused("sell: price and too few loaves", ARGUMENT, b -> b.sell(0, 99, 1000));
        refused("sell: all", INDEX, b -> b.sell(3, 100, 0));
        refused("setRate: both", ARGUMENT, b -> b.setRate(24, 21));
        refused("addBread: all", ARGUMENT, b -> b.addBread(0, 0, 0));
    }

    private void slotsAndOutput() {
        for (int slot : new int[] {LEAST, -1, 2, 3, GREATEST}) {
            refused("save " + slot, ARGUMENT, b -> b.save(slot));
            refused("restore " + slot, ARGUMENT, b -> b.restore(slot));
        }
    }

    /** A bakery without anything: no change to undo, no state saved, no flour for a bread. */
    private void nothingThere() {
        refused("undo", STATE, b -> b.undo());
        refused("restore 0", NOTHING, b -> b.restore(0));
        refused("restore 1", NOTHING, b -> b.restore(1));
        refused("restore 2: neither slot nor state", ARGUMENT, b -> b.restore(2));
        refused("restore -1: neither slot nor state", ARGUMENT, b -> b.restore(-1));
        refused("addBread without flours", ARGUMENT, b -> b.addBread(1, 1, 1));
        refused("buy without flours", INDEX, b -> b.buy(0, 100, 0));
        refused("bake without breads", INDEX, b -> b.bake(0, 0, 0, 0, 0));
        refused("sell without breads", INDEX, b -> b.sell(0, 0, 0));
    }

    /** A bakery with as much as there may be. */
    private void noRoom() {
        refused("a 7th flour", STATE, b -> b.addFlour(1));
        refused("a 7th flour and its price", ARGUMENT, b -> b.addFlour(100));
        refused("a 7th flour and its price", ARGUMENT, b -> b.addFlour(0));
        refused("a 7th bread", STATE, b -> b.addBread(1, 1, 999999));
        refused("a 7th bread and its price", ARGUMENT, b -> b.addBread(1000, 1, 1));
        refused("a 7th bread and its minutes", ARGUMENT, b -> b.addBread(1, 10, 1));
        refused("a 7th bread and its recipe", ARGUMENT, b -> b.addBread(1, 1, 1000000));
        refused("a 7th bread without a recipe", ARGUMENT, b -> b.addBread(1, 1, 0));
        refused("a 25th batch", STATE, b -> b.bake(0, 1, 0, 0, 0));
        refused("a 25th batch and its loaves", ARGUMENT, b -> b.bake(0, 21, 0, 0, 0));
        refused("a 25th batch and burnt loaves", ARGUMENT, b -> b.bake(0, 1, 2, 0, 0));
        refused("a 25th batch and extra units", ARGUMENT, b -> b.bake(0, 1, 0, 10, 0));
        refused("a 25th batch and late minutes", ARGUMENT, b -> b.bake(0, 1, 0, 0, 10));
        refused("a 25th batch of no bread", INDEX, b -> b.bake(6, 1, 0, 0, 0));
        refused("the loss of a 25th batch", STATE, b -> b.lossIfBaked(0, 1));
        refused("the loss of a 25th batch of no loaves", ARGUMENT, b -> b.lossIfBaked(0, 0));
        refused("a 13th lot", STATE, b -> b.buy(0, 1, 1));
        refused("a 13th lot and its units", ARGUMENT, b -> b.buy(0, 0, 1));
        refused("a 13th lot and its price", ARGUMENT, b -> b.buy(0, 1, 100));
        refused("sell one too many", STATE, b -> b.sell(1, 13, 1));
    }
}
