/** Promises 27 to 41: batches and their gaps. */
final class BatchesTest {
    private static final Check CHECK = new Check("BatchesTest");
    private static final String SETUP = "bakery 9999 3 2;flour 10;flour 20;flour 30;bread 200 4 320;bread 90 2 5;"
            + "buy 0 50 12;buy 1 3 25;buy 1 40 18;buy 2 99 31;";

    public static void main(String[] args) {
        promises27To29();
        promises30And31();
        promise32To34();
        rateGap();
        timeGap();
        promise35();
        promise36();
        promises37And38();
        promise39();
        promise40();
        promise41();
        wrongInputs();
        CHECK.end();
    }

    private static void promises27To29() {
        PennyBakery b = Check.bakery(SETUP);
        CHECK.is("no batches", 0, b.batchCount());
        CHECK.noIndex("no batch", () -> b.batchBread(0));
        CHECK.noIndex("no batch", () -> b.goodLoaves(0));
        b.bake(1, 5, 2, 0, 0);
        b.bake(0, 4, 4, 0, 0);
        CHECK.is("batches", 2, b.batchCount());
        CHECK.is("bread", 1, b.batchBread(0));
        CHECK.is("bread", 0, b.batchBread(1));
        CHECK.is("good", 3, b.goodLoaves(0));
        CHECK.is("good", 0, b.goodLoaves(1));
        b.sell(1, 3, 90);
        CHECK.is("good, though sold", 3, b.goodLoaves(0));
        CHECK.noIndex("batch 2", () -> b.batchBread(2));
        CHECK.noIndex("batch 2", () -> b.goodLoaves(2));
        PennyBakery many = Check.bakery("bakery 999 0 1;flour 1;bread 1 1 1;buy 0 99 1;");
        for (int batch = 0; batch < 24; batch++) {
            CHECK.is("number", batch, many.bake(0, batch % 4 + 1, batch % 4, 0, 0));
        }
        CHECK.is("batches", 24, many.batchCount());
        CHECK.is("one good loaf", 1, many.goodLoaves(23));
    }

    private static void promises30And31() {
        PennyBakery b = Check.bakery(SETUP);
        b.bake(0, 5, 0, 0, -3);
        CHECK.is("start", 0, b.startOf(0));
        CHECK.is("minutes", 17, b.ovenMinutes(0));
        b.bake(1, 1, 0, 0, -1);
        CHECK.is("the other oven", 0, b.startOf(1));
        CHECK.is("one minute", 1, b.ovenMinutes(1));
        b.waitMinutes(10);
        b.bake(1, 2, 0, 0, 9);
        CHECK.is("not before the clock", 10, b.startOf(2));
        CHECK.is("minutes", 13, b.ovenMinutes(2));
        b.bake(1, 1, 0, 0, 0);
        CHECK.is("when the oven is free", 17, b.startOf(3));
        b.bake(1, 1, 0, 0, 0);
        CHECK.is("when the oven is free", 19, b.startOf(4));
        b.bake(1, 1, 0, 0, 0);
        CHECK.is("the first oven is free earlier", 21, b.startOf(5));
        CHECK.is("next is oven 0 or 1", 23, b.freeAt(0));
        CHECK.is("equal", 23, b.freeAt(1));
        b.bake(1, 1, 0, 0, 0);
        CHECK.is("of several the first", 25, b.freeAt(0));
        CHECK.noIndex("batch 7", () -> b.startOf(7));
        CHECK.noIndex("batch 7", () -> b.ovenMinutes(7));
    }

    /** Flour 1 is the main flour of bread 0: its recipe has nothing of flour 0. */
    private static void promise32To34() {
        PennyBakery b = Check.bakery(SETUP);
        CHECK.is("standard cost", 2 * 20 + 3 * 30 + 4 * 3, b.standardCost(0));
        b.bake(0, 4, 1, 3, 2);
        int flour1 = 3 * 25 + 8 * 18;
        int flour2 = 12 * 31;
        int minutes = 18 * 3;
        CHECK.is("cost", flour1 + flour2 + minutes, b.costOf(0));
        CHECK.is("price", 3 * 5 - 8 * 2 + 12, b.gapOf(0, PennyBakery.PRICE));
        CHECK.is("use", 3 * 20, b.gapOf(0, PennyBakery.USE));
        CHECK.is("rate", 0, b.gapOf(0, PennyBakery.RATE));
        CHECK.is("time", 2 * 3, b.gapOf(0, PennyBakery.TIME));
        CHECK.is("burnt", 142, b.gapOf(0, PennyBakery.BURNT));
        CHECK.is("loss", flour1 + flour2 + minutes - 3 * 142, b.lossOf(0));
        CHECK.is("sum of the gaps", 11 + 60 + 6 + 142, b.lossOf(0));
        CHECK.is("flour 0 is not used", 50, b.unitsOf(0));
        CHECK.is("flour 1", 32, b.unitsOf(1));
        CHECK.is("flour 2", 87, b.unitsOf(2));
        b.bake(0, 1, 0, -2, 0);
        CHECK.is("no unit of the main flour", 32, b.unitsOf(1));
        CHECK.is("savings", -40, b.gapOf(1, PennyBakery.USE));
        CHECK.is("savings and prices", -37, b.lossOf(1));
        CHECK.is("cost", 3 * 31 + 12, b.costOf(1));
        b.sell(0, 3, 150);
        b.setRate(0, 20);
        CHECK.is("sales belong to no batch", 219, b.lossOf(0));
    }

    private static void rateGap() {
        PennyBakery b = Check.bakery("bakery 999 3 1;flour 1;bread 9 9 1;buy 0 99 1;rate 0 5;rate 1 1;rate 2 20;rate 23 7;");
        b.waitMinutes(58);
        b.bake(0, 1, 0, 0, 0);
        CHECK.is("two hours", 2 * 2 - 7 * 2, b.gapOf(0, PennyBakery.RATE));
        CHECK.is("price of minutes", 2 * 5 + 7, b.spentOnOvens());
        b.bake(0, 7, 0, 0, 0);
        CHECK.is("three hours", -53 * 2 + 10 * 17, b.gapOf(1, PennyBakery.RATE));
        b.setRate(0, 0);
        CHECK.is("rates do not change batches", -10, b.gapOf(0, PennyBakery.RATE));
        CHECK.is("nor their costs", 17 + 1, b.costOf(0));
        b.waitMinutes(999);
        b.waitMinutes(1439 - 1057);
        CHECK.is("the last minute of a day", 1439, b.clock());
        b.bake(0, 1, 0, 0, -7);
        CHECK.is("the last and the first hour", 7 + 0 - 2 * 3, b.gapOf(2, PennyBakery.RATE));
    }

    private static void timeGap() {
        PennyBakery b = Check.bakery("bakery 999 4 1;flour 1;bread 9 1 1;buy 0 99 1;rate 0 9;");
        b.bake(0, 2, 0, 0, 9);
        CHECK.is("late, at the standard rate", 36, b.gapOf(0, PennyBakery.TIME));
        CHECK.is("rate, for all minutes", 55, b.gapOf(0, PennyBakery.RATE));
        b.bake(0, 10, 0, 0, -9);
        CHECK.is("early", -36, b.gapOf(1, PennyBakery.TIME));
        CHECK.is("rate", 5, b.gapOf(1, PennyBakery.RATE));
    }

    private static void promise35() {
        PennyBakery b = new PennyBakery();
        places(b, 0, 4, 0, 1, 2, 3);
        places(b, 1, 0, 2, 3, 1, 4);
        CHECK.is("no place", -1, b.kindAt(0, 5));
        CHECK.is("no place", -1, b.kindAt(0, -1));
        CHECK.is("no place", -1, b.kindAt(0, Integer.MIN_VALUE));
        CHECK.is("no place", -1, b.kindAt(0, Integer.MAX_VALUE));
        CHECK.noIndex("no batch", () -> b.kindAt(2, 0));
        CHECK.noIndex("no batch and no place", () -> b.kindAt(-1, -1));
        PennyBakery plain = Check.bakery("bakery 999 2 1;flour 4;bread 9 1 1;buy 0 50 4;");
        plain.bake(0, 1, 0, 0, 0);
        places(plain, 0, 0, 1, 2, 3, 4);
        plain.bake(0, 9, 0, -1, -1);
        places(plain, 1, 0, 2, 4, 3, 1);
        plain.bake(0, 9, 0, 1, 2);
        places(plain, 2, 1, 3, 0, 2, 4);
    }

    private static void places(PennyBakery b, int batch, int... kinds) {
        for (int place = 0; place < 5; place++) {
            CHECK.is("kind at " + batch + " " + place, kinds[place], b.kindAt(batch, place));
        }
    }

    private static void promise36() {
        PennyBakery b = new PennyBakery();
        int[] due = {62, 20, 26, 6, 46, 30};
        for (int kind = 0; kind < 6; kind++) {
            CHECK.is("sum of " + kind, due[kind], b.gapSum(kind));
        }
        b.sell(1, 2, 300);
        b.sell(0, 1, 149);
        CHECK.is("sales", 30 - 120 + 1, b.gapSum(PennyBakery.SALES));
        CHECK.is("the others stay", 46, b.gapSum(PennyBakery.BURNT));
        CHECK.noArgument("kind 6", () -> b.gapSum(6));
        CHECK.noArgument("kind -1", () -> b.gapSum(-1));
    }

    private static void promises37And38() {
        PennyBakery b = Check.bakery(SETUP);
        CHECK.is("none", 0, b.priceGap(1) + b.useGap(1));
        b.bake(0, 4, 1, 3, 2);
        b.bake(0, 2, 0, -1, 0);
        CHECK.is("price of flour 0", 0, b.priceGap(0));
        CHECK.is("price of flour 1", 15 - 2 * 8 - 2 * 3, b.priceGap(1));
        CHECK.is("price of flour 2", 12 + 6, b.priceGap(2));
        CHECK.is("use of flour 0", 0, b.useGap(0));
        CHECK.is("use of flour 1", 60 - 20, b.useGap(1));
        CHECK.is("use of flour 2", 0, b.useGap(2));
        b.bake(1, 1, 0, 2, 0);
        CHECK.is("price of flour 0", 14, b.priceGap(0));
        CHECK.is("use of flour 0", 20, b.useGap(0));
        CHECK.noIndex("flour 3", () -> b.priceGap(3));
        CHECK.noIndex("flour 3", () -> b.useGap(3));
        b.addFlour(5);
        CHECK.is("a new flour", 0, b.priceGap(3) + b.useGap(3));
    }

    private static void promise39() {
        PennyBakery b = Check.bakery(SETUP);
        CHECK.is("no loss", 0, b.totalLoss());
        b.bake(0, 4, 1, 3, 2);
        CHECK.is("loss", 219, b.totalLoss());
        b.bake(0, 1, 0, -2, 0);
        CHECK.is("loss", 219 - 37, b.totalLoss());
        b.sell(0, 4, 230);
        CHECK.is("loss", 219 - 37 - 120, b.totalLoss());
        b.buy(0, 1, 99);
        CHECK.is("flour that is not used", 219 - 37 - 120, b.totalLoss());
    }

    private static void promise40() {
        PennyBakery b = Check.bakery("bakery 999 0 1;flour 2;bread 9 1 1;buy 0 99 2;");
        CHECK.is("none", -1, b.worstBatch());
        b.bake(0, 5, 0, -3, 0);
        CHECK.is("savings", 0, b.worstBatch());
        b.bake(0, 5, 0, -2, 0);
        CHECK.is("smaller savings", 1, b.worstBatch());
        b.bake(0, 5, 0, -2, 0);
        CHECK.is("of several the smallest", 1, b.worstBatch());
        b.bake(0, 5, 0, 2, 0);
        CHECK.is("a loss", 3, b.worstBatch());
        b.bake(0, 5, 0, 1, 0);
        CHECK.is("a smaller loss", 3, b.worstBatch());
    }

    private static void promise41() {
        PennyBakery b = Check.bakery("bakery 9999 4 1;flour 4;bread 20 1 1;buy 0 99 4;");
        CHECK.is("of several the smallest", 0, b.worstKind());
        b.bake(0, 5, 0, 1, 0);
        CHECK.is("use", 1, b.worstKind());
        b.bake(0, 5, 0, 0, 1);
        CHECK.is("of several the smallest", 1, b.worstKind());
        b.bake(0, 5, 0, 0, 1);
        CHECK.is("time", 3, b.worstKind());
        b.bake(0, 5, 2, 0, 0);
        CHECK.is("burnt", 4, b.worstKind());
        b.sell(0, 10, 18);
        CHECK.is("sales", 5, b.worstKind());
        b.setRate(0, 5);
        b.bake(0, 20, 0, 1, 2);
        CHECK.is("rate, of several the smallest", 2, Check.load(b, "bakery 99 1 1;flour 1;bread 9 9 1;buy 0 9 1;"
                + "rate 0 2;bake 0 2;bake 0 2;"));
        CHECK.is("rate", 2, b.worstKind());
        PennyBakery savings = Check.bakery("bakery 9999 4 1;flour 4;bread 20 1 1;buy 0 99 3;rate 0 1;bake 0 9 early 1 less 1;sell 0 1 21;");
        CHECK.is("all others are savings", 4, savings.worstKind());
    }

    private static void wrongInputs() {
        PennyBakery b = new PennyBakery();
        int[] strange = {Integer.MIN_VALUE, -1, 2, 24, Integer.MAX_VALUE};
        for (int index : strange) {
            CHECK.noIndex("batchBread " + index, () -> b.batchBread(index));
            CHECK.noIndex("goodLoaves " + index, () -> b.goodLoaves(index));
            CHECK.noIndex("startOf " + index, () -> b.startOf(index));
            CHECK.noIndex("ovenMinutes " + index, () -> b.ovenMinutes(index));
            CHECK.noIndex("costOf " + index, () -> b.costOf(index));
            CHECK.noIndex("lossOf " + index, () -> b.lossOf(index));
            CHECK.noIndex("gapOf " + index, () -> b.gapOf(index, 0));
            CHECK.noIndex("gapOf without kind " + index, () -> b.gapOf(index, 9));
            CHECK.noIndex("kindAt " + index, () -> b.kindAt(index, 0));
            CHECK.noIndex("priceGap " + index, () -> b.priceGap(index));
            CHECK.noIndex("useGap " + index, () -> b.useGap(index));
        }
        CHECK.noArgument("sales belong to no batch", () -> b.gapOf(0, PennyBakery.SALES));
        CHECK.noArgument("kind -1", () -> b.gapOf(0, -1));
        CHECK.noArgument("least kind", () -> b.gapOf(1, Integer.MIN_VALUE));
        CHECK.noArgument("greatest kind", () -> b.gapSum(Integer.MAX_VALUE));
    }
}
