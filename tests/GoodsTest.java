/** Promises 7 to 26: money and time, flours, breads and ovens. */
final class GoodsTest {
    private static final Check CHECK = new Check("GoodsTest");
    private static final int[] STRANGE = {Integer.MIN_VALUE, -2, -1, 6, 7, 12, 24, 1000, Integer.MAX_VALUE};

    public static void main(String[] args) {
        promise7();
        promise8();
        promise9();
        promises10And11();
        promise12();
        promises13To15();
        lotsVanish();
        promises16To18();
        promise19();
        promise20();
        promise21();
        promises22And23();
        promise24();
        promise25();
        promise26();
        strangeIndices();
        CHECK.end();
    }

    private static void promise7() {
        PennyBakery b = Check.bakery("bakery 100 1 1;flour 1;bread 9 9 1;buy 0 40 1;");
        CHECK.is("at first", 0, b.clock());
        b.bake(0, 20, 0, 0, 0);
        CHECK.is("the clock stays when a batch is baked", 0, b.clock());
        b.waitMinutes(999);
        b.waitMinutes(999);
        CHECK.is("clock", 1998, b.clock());
        b.undo();
        CHECK.is("clock", 999, b.clock());
    }

    private static void promise8() {
        PennyBakery b = Check.bakery("bakery 100 2 1;flour 10;bread 150 9 1;buy 0 10 10;");
        CHECK.is("cash", 0, b.cash());
        b.bake(0, 4, 0, 0, 1);
        CHECK.is("less than 0", -74, b.cash());
        b.sell(0, 1, 30);
        CHECK.is("cash", -44, b.cash());
    }

    private static void promise9() {
        PennyBakery b = new PennyBakery();
        for (int i = 1; i <= 10; i++) {
            b.waitMinutes(1);
            CHECK.is("changes", Math.min(i, 8), b.undoCount());
        }
        b.undo();
        CHECK.is("after undo", 7, b.undoCount());
        b.save(0);
        b.writeBatch(0);
        Check.run(b, "wait 0;");
        CHECK.is("no changes", 7, b.undoCount());
    }

    private static void promises10And11() {
        PennyBakery b = Check.bakery("bakery 100 2 1;");
        CHECK.is("no flours", 0, b.flourCount());
        CHECK.noIndex("no flour", () -> b.flourPrice(0));
        for (int flour = 0; flour < 6; flour++) {
            b.addFlour(99 - flour);
            CHECK.is("flours", flour + 1, b.flourCount());
        }
        for (int flour = 0; flour < 6; flour++) {
            CHECK.is("price", 99 - flour, b.flourPrice(flour));
        }
        CHECK.noIndex("flour 6", () -> b.flourPrice(6));
        CHECK.noIndex("flour -1", () -> b.flourPrice(-1));
    }

    private static void promise12() {
        PennyBakery b = Check.bakery("bakery 9999 2 1;flour 10;flour 20;bread 99 1 1;");
        CHECK.is("no units", 0, b.unitsOf(0));
        b.buy(0, 5, 9);
        b.buy(0, 7, 8);
        b.buy(1, 99, 7);
        CHECK.is("units", 12, b.unitsOf(0));
        CHECK.is("units", 99, b.unitsOf(1));
        b.bake(0, 6, 0, 0, 0);
        CHECK.is("units left", 6, b.unitsOf(0));
        CHECK.is("units left", 99, b.unitsOf(1));
    }

    private static void promises13To15() {
        PennyBakery b = Check.bakery("bakery 9999 2 1;flour 10;flour 20;bread 99 1 1;");
        CHECK.is("no lots", 0, b.lotsOf(0));
        CHECK.noIndex("no lot", () -> b.lotUnits(0, 0));
        CHECK.noIndex("no lot", () -> b.lotPrice(0, 0));
        for (int lot = 0; lot < 12; lot++) {
            b.buy(1, lot + 1, 50 - lot);
            CHECK.is("lots", lot + 1, b.lotsOf(1));
        }
        for (int lot = 0; lot < 12; lot++) {
            CHECK.is("units", lot + 1, b.lotUnits(1, lot));
            CHECK.is("price", 50 - lot, b.lotPrice(1, lot));
        }
        CHECK.is("no lots", 0, b.lotsOf(0));
        CHECK.noIndex("lot 12", () -> b.lotUnits(1, 12));
        CHECK.noIndex("lot 12", () -> b.lotPrice(1, 12));
        CHECK.noIndex("lot -1", () -> b.lotUnits(1, -1));
        CHECK.noIndex("lot -1", () -> b.lotPrice(1, -1));
        CHECK.noIndex("lot of no flour", () -> b.lotUnits(2, 0));
        CHECK.noIndex("lot of no flour", () -> b.lotPrice(2, 0));
        CHECK.noIndex("lots of no flour", () -> b.lotsOf(2));
    }

    private static void lotsVanish() {
        PennyBakery b = Check.bakery("bakery 9999 2 1;flour 10;bread 99 1 1;buy 0 3 5;buy 0 4 6;buy 0 5 7;");
        b.bake(0, 2, 0, 0, 0);
        CHECK.is("lots", 3, b.lotsOf(0));
        CHECK.is("units", 1, b.lotUnits(0, 0));
        b.bake(0, 1, 0, 0, 0);
        CHECK.is("a lot without units vanishes", 2, b.lotsOf(0));
        CHECK.is("units", 4, b.lotUnits(0, 0));
        CHECK.is("price", 6, b.lotPrice(0, 0));
        CHECK.is("price", 7, b.lotPrice(0, 1));
        CHECK.noIndex("lot 2", () -> b.lotUnits(0, 2));
        b.bake(0, 5, 0, 0, 0);
        CHECK.is("lots", 1, b.lotsOf(0));
        CHECK.is("units", 4, b.lotUnits(0, 0));
        CHECK.is("price", 7, b.lotPrice(0, 0));
        b.buy(0, 9, 8);
        CHECK.is("a new lot is the last one", 8, b.lotPrice(0, 1));
        b.bake(0, 13, 0, 0, 0);
        CHECK.is("no lots", 0, b.lotsOf(0));
        CHECK.is("no units", 0, b.unitsOf(0));
    }

    private static void promises16To18() {
        PennyBakery b = Check.bakery("bakery 100 2 1;flour 1;");
        CHECK.is("no breads", 0, b.breadCount());
        CHECK.noIndex("no bread", () -> b.listPrice(0));
        for (int bread = 0; bread < 6; bread++) {
            b.addBread(999 - bread, 9 - bread, 1);
            CHECK.is("breads", bread + 1, b.breadCount());
        }
        for (int bread = 0; bread < 6; bread++) {
            CHECK.is("price", 999 - bread, b.listPrice(bread));
            CHECK.is("minutes", 9 - bread, b.minutesOf(bread));
        }
        CHECK.noIndex("bread 6", () -> b.listPrice(6));
        CHECK.noIndex("bread 6", () -> b.minutesOf(6));
    }

    private static void promise19() {
        PennyBakery b = Check.bakery("bakery 100 2 1;flour 1;flour 1;flour 1;flour 1;flour 1;bread 1 1 90817;");
        int[] due = {7, 1, 8, 0, 9};
        for (int flour = 0; flour < 5; flour++) {
            CHECK.is("amount", due[flour], b.amountOf(0, flour));
        }
        CHECK.noIndex("flour 5", () -> b.amountOf(0, 5));
        CHECK.noIndex("bread 1", () -> b.amountOf(1, 0));
        b.addFlour(1);
        CHECK.is("amount of a later flour", 0, b.amountOf(0, 5));
        b.addBread(1, 1, 654321);
        for (int flour = 0; flour < 6; flour++) {
            CHECK.is("amount", flour + 1, b.amountOf(1, flour));
        }
        CHECK.noIndex("flour 6", () -> b.amountOf(0, 6));
        CHECK.noIndex("flour -1", () -> b.amountOf(0, -1));
    }

    private static void promise20() {
        PennyBakery b = Check.bakery("bakery 100 7 1;flour 11;flour 13;bread 1 3 52;bread 1 9 90;rate 0 1;");
        CHECK.is("cost", 2 * 11 + 5 * 13 + 3 * 7, b.standardCost(0));
        CHECK.is("cost", 9 * 13 + 9 * 7, b.standardCost(1));
        b.addFlour(99);
        b.setRate(5, 20);
        CHECK.is("cost", 2 * 11 + 5 * 13 + 3 * 7, b.standardCost(0));
        CHECK.noIndex("bread 2", () -> b.standardCost(2));
        CHECK.is("highest", 0, Check.load(b, "bakery 0 20 1;" + "flour 99;".repeat(6) + "bread 1 9 999999;"));
        CHECK.is("cost", 6 * 9 * 99 + 180, b.standardCost(0));
    }

    private static void promise21() {
        PennyBakery b = Check.bakery("bakery 999 2 1;flour 1;bread 9 1 1;bread 9 1 1;buy 0 99 1;");
        CHECK.is("no loaves", 0, b.loavesOf(0));
        b.bake(0, 9, 2, 0, 0);
        b.bake(1, 4, 0, 0, 0);
        b.bake(0, 3, 3, 0, 0);
        b.bake(0, 5, 0, 0, 0);
        CHECK.is("loaves", 12, b.loavesOf(0));
        CHECK.is("loaves", 4, b.loavesOf(1));
        b.sell(0, 10, 1);
        CHECK.is("loaves left", 2, b.loavesOf(0));
        CHECK.is("loaves left", 4, b.loavesOf(1));
        CHECK.noIndex("bread 2", () -> b.loavesOf(2));
    }

    private static void promises22And23() {
        for (int ovens = 1; ovens <= 3; ovens++) {
            PennyBakery b = Check.bakery("bakery 999 2 " + ovens + ";flour 1;bread 9 3 1;buy 0 99 1;");
            int count = ovens;
            CHECK.is("ovens", ovens, b.ovenCount());
            CHECK.is("free at first", 0, b.freeAt(ovens - 1));
            CHECK.noIndex("an oven too many", () -> b.freeAt(count));
            CHECK.noIndex("oven -1", () -> b.freeAt(-1));
        }
        PennyBakery b = Check.bakery("bakery 999 2 2;flour 1;bread 9 3 1;buy 0 99 1;");
        b.bake(0, 2, 0, 0, 1);
        CHECK.is("free behind the last minute", 7, b.freeAt(0));
        CHECK.is("the other one", 0, b.freeAt(1));
        b.waitMinutes(50);
        CHECK.is("free", 7, b.freeAt(0));
        b.bake(0, 1, 0, 0, 0);
        CHECK.is("free", 53, b.freeAt(1));
        b.bake(0, 1, 0, 0, -2);
        CHECK.is("free", 51, b.freeAt(0));
    }

    private static void promise24() {
        PennyBakery b = Check.bakery("bakery 999 2 3;flour 1;bread 9 9 1;buy 0 99 1;");
        CHECK.is("of several the first", 0, b.nextOven());
        b.bake(0, 5, 0, 0, 0);
        CHECK.is("next", 1, b.nextOven());
        b.bake(0, 1, 0, 0, 0);
        CHECK.is("next", 2, b.nextOven());
        b.bake(0, 1, 0, 0, 0);
        CHECK.is("of several the first", 1, b.nextOven());
        b.waitMinutes(100);
        CHECK.is("the one that was free first", 1, b.nextOven());
        b.bake(0, 1, 0, 0, 0);
        CHECK.is("next", 2, b.nextOven());
        b.bake(0, 1, 0, 0, 0);
        CHECK.is("next", 0, b.nextOven());
    }

    private static void promise25() {
        PennyBakery b = Check.bakery("bakery 999 13 3;rate 0 0;rate 23 20;");
        CHECK.is("rate", 0, b.rateAt(0));
        CHECK.is("rate", 20, b.rateAt(23));
        for (int hour = 1; hour < 23; hour++) {
            CHECK.is("standard rate", 13, b.rateAt(hour));
        }
        CHECK.noArgument("hour 24", () -> b.rateAt(24));
        CHECK.noArgument("hour -1", () -> b.rateAt(-1));
        CHECK.noArgument("least hour", () -> b.rateAt(Integer.MIN_VALUE));
        CHECK.noArgument("greatest hour", () -> b.rateAt(Integer.MAX_VALUE));
    }

    private static void promise26() {
        PennyBakery b = Check.bakery("bakery 999 20 3;rate 0 0;");
        CHECK.is("standard rate", 20, b.standardRate());
        b.setRate(0, 5);
        CHECK.is("standard rate", 20, b.standardRate());
    }

    private static void strangeIndices() {
        PennyBakery b = new PennyBakery();
        for (int index : STRANGE) {
            CHECK.noIndex("flourPrice " + index, () -> b.flourPrice(index));
            CHECK.noIndex("unitsOf " + index, () -> b.unitsOf(index));
            CHECK.noIndex("lotsOf " + index, () -> b.lotsOf(index));
            CHECK.noIndex("lotUnits " + index, () -> b.lotUnits(index, 0));
            CHECK.noIndex("lotPrice " + index, () -> b.lotPrice(index, 0));
            CHECK.noIndex("lotUnits 0 " + index, () -> b.lotUnits(0, index));
            CHECK.noIndex("lotPrice 0 " + index, () -> b.lotPrice(0, index));
            CHECK.noIndex("listPrice " + index, () -> b.listPrice(index));
            CHECK.noIndex("minutesOf " + index, () -> b.minutesOf(index));
            CHECK.noIndex("amountOf " + index, () -> b.amountOf(index, 0));
            CHECK.noIndex("amountOf 0 " + index, () -> b.amountOf(0, index));
            CHECK.noIndex("standardCost " + index, () -> b.standardCost(index));
            CHECK.noIndex("loavesOf " + index, () -> b.loavesOf(index));
            CHECK.noIndex("freeAt " + index, () -> b.freeAt(index));
        }
    }
}
