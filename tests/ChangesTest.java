/** Promises 54 to 60: changes. */
final class ChangesTest {
    private static final Check CHECK = new Check("ChangesTest");

    public static void main(String[] args) {
        promise54();
        promise55();
        promise56();
        promise57();
        promise58();
        promise59();
        promise60();
        failuresChangeNothing();
        CHECK.end();
    }

    private static void promise54() {
        PennyBakery b = Check.bakery("bakery 9 0 1;");
        CHECK.noArgument("price 0", () -> b.addFlour(0));
        CHECK.noArgument("price 100", () -> b.addFlour(100));
        CHECK.noArgument("price -5", () -> b.addFlour(-5));
        for (int flour = 0; flour < 6; flour++) {
            CHECK.is("index", flour, b.addFlour(flour == 0 ? 1 : 99));
            CHECK.is("a change", flour + 1, b.undoCount());
        }
        CHECK.is("price", 1, b.flourPrice(0));
        CHECK.is("without stock", 0, b.lotsOf(5));
        CHECK.is("cash stays", 9, b.cash());
        CHECK.noState("7 flours", () -> b.addFlour(1));
        CHECK.noArgument("the argument first", () -> b.addFlour(100));
        b.undo();
        CHECK.is("again", 5, b.addFlour(3));
        PennyBakery used = Check.bakery("bakery 999 0 1;flour 5;buy 0 9 9;");
        used.undoCount();
        used.save(0);
        used.addFlour(7);
        used.buy(1, 5, 5);
        used.restore(0);
        used.addFlour(8);
        CHECK.is("nothing of an undone flour", 0, used.unitsOf(1));
    }

    private static void promise55() {
        PennyBakery b = Check.bakery("bakery 9 1 1;");
        CHECK.noArgument("no flours", () -> b.addBread(1, 1, 1));
        b.addFlour(4);
        b.addFlour(5);
        CHECK.noArgument("price 0", () -> b.addBread(0, 1, 1));
        CHECK.noArgument("price 1000", () -> b.addBread(1000, 1, 1));
        CHECK.noArgument("minutes 0", () -> b.addBread(1, 0, 1));
        CHECK.noArgument("minutes 10", () -> b.addBread(1, 10, 1));
        CHECK.noArgument("recipe 0", () -> b.addBread(1, 1, 0));
        CHECK.noArgument("recipe -1", () -> b.addBread(1, 1, -1));
        CHECK.noArgument("recipe with flour 2", () -> b.addBread(1, 1, 100));
        CHECK.noArgument("recipe too long", () -> b.addBread(1, 1, 1000000));
        CHECK.noArgument("recipe far too long", () -> b.addBread(1, 1, Integer.MAX_VALUE));
        CHECK.is("least", 0, b.addBread(1, 1, 1));
        CHECK.is("greatest", 1, b.addBread(999, 9, 99));
        CHECK.is("flour 1 alone", 2, b.addBread(500, 5, 30));
        CHECK.is("changes", 5, b.undoCount());
        CHECK.is("cost", 81 + 9, b.standardCost(1));
        CHECK.is("cost", 15 + 5, b.standardCost(2));
        CHECK.is("amount", 0, b.amountOf(2, 0));
        CHECK.is("loaves", 0, b.loavesOf(2));
        for (int bread = 3; bread < 6; bread++) {
            CHECK.is("index", bread, b.addBread(1, 1, 1));
        }
        CHECK.noState("7 breads", () -> b.addBread(1, 1, 1));
        CHECK.noArgument("the argument first", () -> b.addBread(1, 1, 100));
        for (int flour = 2; flour < 6; flour++) {
            b.addFlour(1);
        }
        b.undo();
        CHECK.noArgument("recipe with flour 5", () -> b.addBread(1, 1, 100000));
        b.addFlour(1);
        CHECK.noArgument("recipe with flour 6", () -> b.addBread(1, 1, 1000000));
        CHECK.noState("recipe with flour 5", () -> b.addBread(1, 1, 999999));
    }

    private static void promise56() {
        PennyBakery b = Check.bakery("bakery 20000 0 1;flour 1;flour 1;");
        CHECK.is("greatest", 20000 - 9801, b.buy(0, 99, 99));
        CHECK.is("least", 20000 - 9802, b.buy(1, 1, 1));
        CHECK.is("a change", 2, b.undoCount());
        CHECK.is("cash", 10198, b.cash());
        CHECK.is("lot", 99, b.lotUnits(0, 0));
        CHECK.is("lot", 99, b.lotPrice(0, 0));
        CHECK.noIndex("flour 2", () -> b.buy(2, 0, 0));
        CHECK.noIndex("flour -1", () -> b.buy(-1, 1, 1));
        CHECK.noArgument("units 0", () -> b.buy(0, 0, 1));
        CHECK.noArgument("units 100", () -> b.buy(0, 100, 1));
        CHECK.noArgument("price 0", () -> b.buy(0, 1, 0));
        CHECK.noArgument("price 100", () -> b.buy(0, 1, 100));
        CHECK.is("nearly all", 397, b.buy(0, 99, 99));
        CHECK.noState("too dear", () -> b.buy(0, 5, 80));
        CHECK.noArgument("the argument first", () -> b.buy(0, 100, 99));
        PennyBakery poor = Check.bakery("bakery 50 9 1;flour 1;bread 1 9 1;");
        CHECK.noState("one penny short", () -> poor.buy(0, 3, 17));
        CHECK.is("all the cash", 0, poor.buy(0, 5, 10));
        CHECK.noState("no cash", () -> poor.buy(0, 1, 1));
        poor.bake(0, 1, 0, 0, 0);
        CHECK.noState("less than no cash", () -> poor.buy(0, 1, 1));
        PennyBakery lots = Check.bakery("bakery 500 0 1;flour 1;flour 1;bread 1 1 1;");
        for (int lot = 0; lot < 12; lot++) {
            lots.buy(0, 2, 1);
        }
        CHECK.noState("12 lots", () -> lots.buy(0, 1, 1));
        CHECK.is("of another flour", 475, lots.buy(1, 1, 1));
        lots.bake(0, 1, 0, 0, 0);
        CHECK.noState("still 12 lots", () -> lots.buy(0, 1, 1));
        lots.bake(0, 1, 0, 0, 0);
        CHECK.is("11 lots", 474, lots.buy(0, 1, 1));
    }

    private static void promise57() {
        PennyBakery b = Check.bakery("bakery 20000 6 1;flour 1;bread 9 2 1;buy 0 9 1;bake 0 1;");
        CHECK.is("previous", 6, b.setRate(0, 20));
        CHECK.is("previous", 20, b.setRate(0, 0));
        CHECK.is("previous", 6, b.setRate(23, 3));
        CHECK.is("previous", 3, b.setRate(23, 3));
        CHECK.is("changes, even without effect", 4, b.undoCount());
        CHECK.is("rate", 0, b.rateAt(0));
        CHECK.is("rate", 3, b.rateAt(23));
        CHECK.is("rate", 6, b.rateAt(1));
        CHECK.is("batches do not change", 12, b.spentOnOvens());
        CHECK.noArgument("hour 24", () -> b.setRate(24, 0));
        CHECK.noArgument("hour -1", () -> b.setRate(-1, 0));
        CHECK.noArgument("rate 21", () -> b.setRate(0, 21));
        CHECK.noArgument("rate -1", () -> b.setRate(0, -1));
        CHECK.is("no more changes", 4, b.undoCount());
    }

    private static void promise58() {
        PennyBakery b = Check.bakery("bakery 20000 6 2;flour 1;flour 1;bread 9 2 21;buy 0 99 1;buy 1 99 1;");
        CHECK.noIndex("bread 1", () -> b.bake(1, 0, 0, 0, 0));
        CHECK.noIndex("bread -1", () -> b.bake(-1, 1, 0, 0, 0));
        CHECK.noArgument("loaves 0", () -> b.bake(0, 0, 0, 0, 0));
        CHECK.noArgument("loaves 21", () -> b.bake(0, 21, 0, 0, 0));
        CHECK.noArgument("burnt -1", () -> b.bake(0, 5, -1, 0, 0));
        CHECK.noArgument("burnt 6", () -> b.bake(0, 5, 6, 0, 0));
        CHECK.noArgument("extra 10", () -> b.bake(0, 5, 0, 10, 0));
        CHECK.noArgument("extra -10", () -> b.bake(0, 5, 0, -10, 0));
        CHECK.noArgument("late 10", () -> b.bake(0, 5, 0, 0, 10));
        CHECK.noArgument("late -10", () -> b.bake(0, 5, 0, 0, -10));
        CHECK.is("no change", 0, b.undoCount());
        CHECK.is("number", 0, b.bake(0, 20, 20, 9, 9));
        CHECK.is("a change", 1, b.undoCount());
        CHECK.is("paid at once", 20000 - 198 - 49 * 6, b.cash());
        CHECK.is("units", 70, b.unitsOf(0));
        CHECK.is("units", 59, b.unitsOf(1));
        CHECK.is("number", 1, b.bake(0, 9, 0, -9, -9));
        CHECK.is("paid at once", 20000 - 198 - 58 * 6, b.cash());
        CHECK.is("units", 70, b.unitsOf(0));
        CHECK.is("units", 41, b.unitsOf(1));
        CHECK.is("loaves", 9, b.loavesOf(0));
        CHECK.noState("too few units of flour 1", () -> b.bake(0, 20, 0, 0, 0) + b.bake(0, 1, 0, 0, 0));
        CHECK.noState("less than no units", () -> b.bake(0, 1, 0, -2, 0));
        CHECK.noState("less than one minute", () -> b.bake(0, 1, 0, 0, -2));
        CHECK.noArgument("the argument first", () -> b.bake(0, 1, 2, -9, 0));
        PennyBakery full = Check.bakery("bakery 999 0 1;flour 1;bread 1 1 1;buy 0 99 1;" + "bake 0 1;".repeat(24));
        CHECK.noState("24 batches", () -> full.bake(0, 1, 0, 0, 0));
        CHECK.is("24 batches", 24, full.batchCount());
        mainFlour();
    }

    /** The extra units are those of the flour with the smallest index in the recipe. */
    private static void mainFlour() {
        String flours = "flour 2;flour 3;flour 5;flour 7;flour 11;flour 13;";
        String lots = "buy 0 50 2;buy 1 50 3;buy 2 50 5;buy 3 50 7;buy 4 50 11;buy 5 50 13;";
        int[] prices = {2, 3, 5, 7, 11, 13};
        int recipe = 111111;
        for (int flour = 0; flour < 6; flour++) {
            PennyBakery b = Check.bakery("bakery 9999 0 1;" + flours + lots + "bread 1 1 " + recipe + ";");
            b.bake(0, 2, 0, 3, 0);
            for (int other = 0; other < 6; other++) {
                int due = other < flour ? 50 : other == flour ? 45 : 48;
                CHECK.is("units of " + other + " for " + recipe, due, b.unitsOf(other));
                CHECK.is("use of " + other, other == flour ? 3 * prices[flour] : 0, b.useGap(other));
            }
            recipe = recipe - (int) Math.pow(10, flour);
        }
    }

    private static void promise59() {
        PennyBakery b = Check.bakery("bakery 200 0 1;flour 1;bread 10 1 1;buy 0 99 1;buy 0 99 1;" + "bake 0 20;".repeat(6));
        CHECK.is("loaves", 120, b.loavesOf(0));
        CHECK.is("greatest", 2 + 98901, b.sell(0, 99, 999));
        CHECK.is("least", 2 + 98901 + 1, b.sell(0, 1, 1));
        CHECK.is("changes", 2, b.undoCount());
        CHECK.is("cash", 98904, b.cash());
        CHECK.is("income", 98902, b.income());
        CHECK.is("sales", -989 * 99 + 9, b.gapSum(PennyBakery.SALES));
        CHECK.noIndex("bread 1", () -> b.sell(1, 0, 0));
        CHECK.noIndex("bread -1", () -> b.sell(-1, 1, 1));
        CHECK.noArgument("loaves 0", () -> b.sell(0, 0, 1));
        CHECK.noArgument("loaves 100", () -> b.sell(0, 100, 1));
        CHECK.noArgument("price 0", () -> b.sell(0, 1, 0));
        CHECK.noArgument("price 1000", () -> b.sell(0, 1, 1000));
        CHECK.noArgument("the argument first", () -> b.sell(0, 100, 1));
        CHECK.noState("one loaf too many", () -> b.sell(0, 21, 1));
        CHECK.is("all", 98924, b.sell(0, 20, 1));
        CHECK.noState("none left", () -> b.sell(0, 1, 1));
    }

    private static void promise60() {
        PennyBakery b = Check.bakery("bakery 200 0 1;");
        CHECK.is("least", 1, b.waitMinutes(1));
        CHECK.is("greatest", 1000, b.waitMinutes(999));
        CHECK.is("changes", 2, b.undoCount());
        CHECK.noArgument("0", () -> b.waitMinutes(0));
        CHECK.noArgument("1000", () -> b.waitMinutes(1000));
        CHECK.noArgument("-1", () -> b.waitMinutes(-1));
        CHECK.noArgument("least number", () -> b.waitMinutes(Integer.MIN_VALUE));
        CHECK.is("clock", 1000, b.clock());
    }

    private static void failuresChangeNothing() {
        PennyBakery b = new PennyBakery();
        b.waitMinutes(3);
        String before = Check.stateOf(b);
        CHECK.noArgument("addFlour", () -> b.addFlour(0));
        CHECK.noArgument("addBread", () -> b.addBread(1, 1, 100));
        CHECK.noIndex("buy", () -> b.buy(2, 1, 1));
        CHECK.noState("buy", () -> b.buy(0, 99, 99));
        CHECK.noArgument("setRate", () -> b.setRate(3, 21));
        CHECK.noIndex("bake", () -> b.bake(2, 1, 0, 0, 0));
        CHECK.noState("bake", () -> b.bake(1, 20, 0, 0, 0));
        CHECK.noState("sell", () -> b.sell(0, 3, 9));
        CHECK.noArgument("waitMinutes", () -> b.waitMinutes(0));
        CHECK.isText("the state", before, Check.stateOf(b));
        CHECK.is("no change", 1, b.undoCount());
    }
}
