/**
 * The boundary cases of promises 7 to 53: the least and the greatest answers, the first and the last
 * indices and those next to them, and what is empty or full. Above each test stands its sentence.
 */
final class CallEdgesTest {
    private static final Check CHECK = new Check("CallEdgesTest");
    private static final String ONE = "flour 1;bread 1 1 1;";
    /** Parts of a script of which each makes the sum of one kind, PRICE to SALES, 4; BURNT has no part of its own. */
    private static final String[] TIE_PARTS = {"buy 0 4 3;bake 0 4;", "buy 0 4 2;buy 0 2 2;bake 0 4 more 2;",
        "buy 0 4 2;rate 0 2;bake 0 4;rate 0 1;", "buy 0 4 2;bake 0 4 late 4;", "", "buy 0 4 2;bake 0 4;sell 0 4 8;"};

    public static void main(String[] args) {
        clockAndCash();
        undoCount();
        numbersOfFlours();
        stocks();
        lots();
        numbersOfBreads();
        amounts();
        loaves();
        freeOvens();
        nextOven();
        hours();
        numbersOfBatches();
        costsAndLosses();
        kindsOfABatch();
        placesOfKinds();
        sumsOfKinds();
        gapsOfFlours();
        totalLoss();
        worstBatch();
        worstKind();
        obstacles();
        lossIfBaked();
        possibleLoaves();
        bestWait();
        bestWaitAndBusyOvens();
        sumsOfMoney();
        valuesInStock();
        consistency();
        meanLoss();
        burntShare();
        questionsChangeNothing();
        CHECK.end();
    }

    /** clock: "0 or more"; cash: "which may be less than 0" */
    private static void clockAndCash() {
        PennyBakery b = Check.bakery("bakery 0 20 1;" + ONE);
        CHECK.is("least clock", 0, b.clock());
        CHECK.is("no cash", 0, b.cash());
        for (int i = 1; i <= 100; i++) {
            b.waitMinutes(999);
        }
        CHECK.is("a late clock", 99900, b.clock());
        for (int i = 0; i < 24; i++) {
            b.bake(0, 9, 0, -9, 9);
        }
        CHECK.is("far below nothing", -24 * 18 * 20, b.cash());
        CHECK.is("the last batch", 99900 + 23 * 18, b.startOf(23));
        PennyBakery rich = Check.bakery("bakery 99999 0 1;" + ONE);
        CHECK.is("greatest cash of a setup", 99999, rich.cash());
    }

    /** undoCount: "0 to 8" */
    private static void undoCount() {
        PennyBakery b = new PennyBakery();
        CHECK.is("none", 0, b.undoCount());
        for (int changes = 1; changes <= 20; changes++) {
            b.waitMinutes(1);
            CHECK.is("after " + changes, Math.min(changes, 8), b.undoCount());
        }
        for (int left = 7; left >= 0; left--) {
            b.undo();
            CHECK.is("left", left, b.undoCount());
        }
    }

    /** flourCount: "0 to 6"; flourPrice: "if there is no such flour" */
    private static void numbersOfFlours() {
        PennyBakery b = Check.bakery("bakery 0 0 1;");
        for (int flours = 0; flours <= 6; flours++) {
            int count = flours;
            CHECK.is("flours", flours, b.flourCount());
            for (int index = -1; index <= 7; index++) {
                int flour = index;
                if (flour < 0 || flour >= count) {
                    CHECK.noIndex("price of " + flour + " of " + count, () -> b.flourPrice(flour));
                    CHECK.noIndex("units of " + flour + " of " + count, () -> b.unitsOf(flour));
                    CHECK.noIndex("lots of " + flour + " of " + count, () -> b.lotsOf(flour));
                    CHECK.noIndex("lot of " + flour + " of " + count, () -> b.lotUnits(flour, 0));
                    CHECK.noIndex("lot price of " + flour + " of " + count, () -> b.lotPrice(flour, 0));
                    CHECK.noIndex("price gap of " + flour + " of " + count, () -> b.priceGap(flour));
                    CHECK.noIndex("use gap of " + flour + " of " + count, () -> b.useGap(flour));
                } else {
                    CHECK.is("price of " + flour, 99 - flour, b.flourPrice(flour));
                    CHECK.is("nothing of " + flour, 0, b.unitsOf(flour) + b.lotsOf(flour) + b.priceGap(flour) + b.useGap(flour));
                }
            }
            if (flours < 6) {
                b.addFlour(99 - flours);
            }
        }
    }

    /** unitsOf: "the number of units of all lots" */
    private static void stocks() {
        PennyBakery b = Check.bakery("bakery 99999 0 1;" + "flour 1;".repeat(6));
        for (int flour = 0; flour < 6; flour += 5) {
            for (int lot = 1; lot <= 12; lot++) {
                b.buy(flour, 99, 1);
                CHECK.is("units", 99 * lot, b.unitsOf(flour));
                CHECK.is("lots", lot, b.lotsOf(flour));
            }
        }
        CHECK.is("no units of another flour", 0, b.unitsOf(1) + b.unitsOf(4));
    }

    /** lotUnits, lotPrice: "if there is no such flour or no such lot" */
    private static void lots() {
        PennyBakery b = Check.bakery("bakery 9999 0 1;flour 1;flour 1;");
        for (int lots = 0; lots <= 12; lots++) {
            for (int index = -1; index <= 13; index++) {
                int lot = index;
                if (lot < 0 || lot >= lots) {
                    CHECK.noIndex("units of lot " + lot + " of " + lots, () -> b.lotUnits(1, lot));
                    CHECK.noIndex("price of lot " + lot + " of " + lots, () -> b.lotPrice(1, lot));
                } else {
                    CHECK.is("units of lot " + lot, 50 - lot, b.lotUnits(1, lot));
                    CHECK.is("price of lot " + lot, 1 + lot, b.lotPrice(1, lot));
                }
            }
            if (lots < 12) {
                b.buy(1, 50 - lots, 1 + lots);
            }
        }
        CHECK.noIndex("no such flour", () -> b.lotUnits(2, 0));
        CHECK.noIndex("no such flour", () -> b.lotPrice(2, 0));
        CHECK.noIndex("no such flour and no such lot", () -> b.lotUnits(-1, -1));
        CHECK.noIndex("no such flour and no such lot", () -> b.lotPrice(2, 12));
    }

    /** breadCount: "0 to 6"; listPrice, minutesOf and so on: "if there is no such bread" */
    private static void numbersOfBreads() {
        PennyBakery b = Check.bakery("bakery 0 0 1;flour 1;");
        for (int breads = 0; breads <= 6; breads++) {
            CHECK.is("breads", breads, b.breadCount());
            for (int index = -1; index <= 7; index++) {
                int bread = index;
                if (bread < 0 || bread >= breads) {
                    CHECK.noIndex("list price of " + bread, () -> b.listPrice(bread));
                    CHECK.noIndex("minutes of " + bread, () -> b.minutesOf(bread));
                    CHECK.noIndex("amount of " + bread, () -> b.amountOf(bread, 0));
                    CHECK.noIndex("cost of " + bread, () -> b.standardCost(bread));
                    CHECK.noIndex("loaves of " + bread, () -> b.loavesOf(bread));
                    CHECK.noIndex("possible loaves of " + bread, () -> b.possibleLoaves(bread));
                    CHECK.noIndex("best wait of " + bread, () -> b.bestWait(bread, 1));
                    CHECK.noIndex("obstacle of " + bread, () -> b.bakeObstacle(bread, 1, 0, 0));
                    CHECK.noIndex("loss of " + bread, () -> b.lossIfBaked(bread, 1));
                } else {
                    CHECK.is("list price of " + bread, 999 - bread, b.listPrice(bread));
                    CHECK.is("minutes of " + bread, 9 - bread, b.minutesOf(bread));
                    CHECK.is("amount of " + bread, 1 + bread, b.amountOf(bread, 0));
                    CHECK.is("cost of " + bread, 1 + bread, b.standardCost(bread));
                    CHECK.is("loaves of " + bread, 0, b.loavesOf(bread));
                }
            }
            if (breads < 6) {
                b.addBread(999 - breads, 9 - breads, 1 + breads);
            }
        }
    }

    /** amountOf: "if there is no such bread or no such flour" */
    private static void amounts() {
        PennyBakery b = Check.bakery("bakery 0 0 1;flour 1;flour 1;bread 1 1 90;");
        CHECK.is("least", 0, b.amountOf(0, 0));
        CHECK.is("greatest", 9, b.amountOf(0, 1));
        CHECK.noIndex("flour 2", () -> b.amountOf(0, 2));
        CHECK.noIndex("flour -1", () -> b.amountOf(0, -1));
        CHECK.noIndex("bread 1", () -> b.amountOf(1, 0));
        CHECK.noIndex("bread -1", () -> b.amountOf(-1, 0));
        CHECK.noIndex("neither", () -> b.amountOf(1, 2));
        b.addFlour(1);
        CHECK.is("a flour that came later", 0, b.amountOf(0, 2));
        b.undo();
        CHECK.noIndex("it is gone", () -> b.amountOf(0, 2));
    }

    /** loavesOf: "the loaves of a bread in the shop" */
    private static void loaves() {
        PennyBakery b = Check.bakery("bakery 9999 0 1;flour 1;" + "bread 1 1 1;".repeat(6) + "buy 0 99 1;".repeat(6));
        for (int batch = 0; batch < 24; batch++) {
            b.bake(5, 20, 0, 0, 0);
        }
        CHECK.is("as many as there may be", 480, b.loavesOf(5));
        CHECK.is("none of another bread", 0, b.loavesOf(0) + b.loavesOf(4));
        b.sell(5, 99, 1);
        CHECK.is("sold", 381, b.loavesOf(5));
    }

    /** freeAt: "if there is no such oven" */
    private static void freeOvens() {
        for (int ovens = 1; ovens <= 3; ovens++) {
            PennyBakery b = Check.bakery("bakery 0 0 " + ovens + ";");
            for (int index = -2; index <= 4; index++) {
                int oven = index;
                if (oven < 0 || oven >= ovens) {
                    CHECK.noIndex("oven " + oven + " of " + ovens, () -> b.freeAt(oven));
                } else {
                    CHECK.is("oven " + oven, 0, b.freeAt(oven));
                }
            }
        }
    }

    /** nextOven: "the oven in which the next batch would be baked" */
    private static void nextOven() {
        for (int ovens = 1; ovens <= 3; ovens++) {
            PennyBakery b = Check.bakery("bakery 99 0 " + ovens + ";" + ONE + "buy 0 99 1;");
            for (int batch = 0; batch < 2 * ovens; batch++) {
                int next = b.nextOven();
                CHECK.is("the ovens in turn", batch % ovens, next);
                int before = b.freeAt(next);
                b.bake(0, 2, 0, 0, 0);
                CHECK.is("it was that oven", before + 2, b.freeAt(next));
            }
        }
        PennyBakery full = Check.bakery("bakery 99 0 2;" + ONE + "buy 0 99 1;" + "bake 0 1;".repeat(23));
        CHECK.is("the oven of the last batch", 1, full.nextOven());
        full.bake(0, 1, 0, 0, 0);
        CHECK.is("though there will be no next one", 0, full.nextOven());
    }

    /** rateAt: "0 to 23", "if hour is out of range" */
    private static void hours() {
        PennyBakery b = Check.bakery("bakery 0 7 1;rate 0 0;rate 23 20;");
        CHECK.is("hour 0", 0, b.rateAt(0));
        CHECK.is("hour 23", 20, b.rateAt(23));
        CHECK.is("hour 1", 7, b.rateAt(1));
        CHECK.is("hour 22", 7, b.rateAt(22));
        for (int hour : new int[] {Integer.MIN_VALUE, -24, -1, 24, 25, 47, Integer.MAX_VALUE}) {
            CHECK.noArgument("hour " + hour, () -> b.rateAt(hour));
        }
        CHECK.is("standard rate", 7, b.standardRate());
    }

    /** batchCount: "0 to 24"; batchBread and so on: "if there is no such batch" */
    private static void numbersOfBatches() {
        for (int batches = 0; batches <= 24; batches++) {
            PennyBakery b = bakeryWithBatches(batches);
            CHECK.is("batches", batches, b.batchCount());
            noBatch(b, -1);
            noBatch(b, batches);
            noBatch(b, 24);
            if (batches > 0) {
                int last = batches - 1;
                CHECK.is("bread", last % 2, b.batchBread(last));
                CHECK.is("minutes", 3 + last % 2 * 3, b.ovenMinutes(last));
                CHECK.is("good loaves", 3 - last % 4, b.goodLoaves(last));
                CHECK.is("cost", 6 + last % 2 * 3, b.costOf(last));
            }
        }
        PennyBakery full = bakeryWithBatches(24);
        CHECK.is("the first batch stays", 0, full.startOf(0));
        CHECK.is("the last one", 12 * 3 + 11 * 6, full.startOf(23));
    }

    private static PennyBakery bakeryWithBatches(int batches) {
        PennyBakery b = Check.bakery("bakery 999 1 1;flour 1;flour 1;bread 1 1 1;bread 2 2 10;buy 0 99 1;buy 1 99 1;");
        for (int batch = 0; batch < batches; batch++) {
            b.bake(batch % 2, 3, batch % 4, 0, 0);
        }
        return b;
    }

    private static void noBatch(PennyBakery b, int batch) {
        CHECK.noIndex("batchBread " + batch, () -> b.batchBread(batch));
        CHECK.noIndex("goodLoaves " + batch, () -> b.goodLoaves(batch));
        CHECK.noIndex("startOf " + batch, () -> b.startOf(batch));
        CHECK.noIndex("ovenMinutes " + batch, () -> b.ovenMinutes(batch));
        CHECK.noIndex("costOf " + batch, () -> b.costOf(batch));
        CHECK.noIndex("lossOf " + batch, () -> b.lossOf(batch));
        CHECK.noIndex("gapOf " + batch, () -> b.gapOf(batch, 0));
        CHECK.noIndex("kindAt " + batch, () -> b.kindAt(batch, 0));
        CHECK.noIndex("writeBatch " + batch, () -> b.writeBatch(batch));
    }

    /** costOf: "the number of pence"; lossOf: "less than 0 for savings" */
    private static void costsAndLosses() {
        PennyBakery b = Check.bakery("bakery 99 0 1;flour 9;bread 1 1 1;buy 0 10 9;");
        b.bake(0, 1, 0, -1, 0);
        CHECK.is("no units and free minutes", 0, b.costOf(0));
        CHECK.is("a saving", -9, b.lossOf(0));
        b.bake(0, 1, 1, -1, 0);
        CHECK.is("burnt, of no units", 0, b.costOf(1));
        CHECK.is("its gaps are equal", 0, b.lossOf(1));
        CHECK.is("burnt", 9, b.gapOf(1, PennyBakery.BURNT));
        CHECK.is("use", -9, b.gapOf(1, PennyBakery.USE));
        b.bake(0, 1, 1, 0, 0);
        CHECK.is("the cost of a burnt loaf", 9, b.lossOf(2));
    }

    /** gapOf: "PRICE to BURNT", "if kind is out of range" */
    private static void kindsOfABatch() {
        PennyBakery b = new PennyBakery();
        CHECK.is("the first kind", 26, b.gapOf(0, PennyBakery.PRICE));
        CHECK.is("the last kind", 46, b.gapOf(0, PennyBakery.BURNT));
        for (int kind : new int[] {Integer.MIN_VALUE, -1, PennyBakery.SALES, 6, Integer.MAX_VALUE}) {
            CHECK.noArgument("kind " + kind, () -> b.gapOf(0, kind));
            CHECK.noIndex("the batch is told first", () -> b.gapOf(2, kind));
            CHECK.noIndex("the batch is told first", () -> b.gapOf(-1, kind));
        }
    }

    /** kindAt: "0 for the greatest gap ..; equal gaps are in the order of their kinds", "NONE if there is no such place" */
    private static void placesOfKinds() {
        PennyBakery b = Check.bakery("bakery 99999 1 1;flour 5;bread 9 1 1;buy 0 99 5;buy 0 99 6;buy 0 99 4;");
        b.bake(0, 5, 0, 0, 0);
        places(b, 0, "01234");
        b.bake(0, 5, 1, 0, 6);
        places(b, 1, "34012");
        b.bake(0, 5, 5, 6, 0);
        places(b, 2, "14023");
        b.bake(0, 5, 0, -1, -1);
        places(b, 3, "02431");
        b.setRate(0, 0);
        b.bake(0, 5, 0, 0, 0);
        places(b, 4, "01342");
        PennyBakery all = Check.bakery("bakery 9999 1 1;flour 2;bread 9 1 1;buy 0 99 3;rate 0 2;");
        all.bake(0, 12, 4, 6, 6);
        CHECK.is("price", 18, all.gapOf(0, 0));
        CHECK.is("rate, equal to price", 18, all.gapOf(0, 2));
        places(all, 0, "02143");
    }

    private static void places(PennyBakery b, int batch, String kinds) {
        for (int place = 0; place < 5; place++) {
            CHECK.is("place " + place + " of batch " + batch, kinds.charAt(place) - '0', b.kindAt(batch, place));
        }
        for (int place : new int[] {Integer.MIN_VALUE, -1, 5, 6, Integer.MAX_VALUE}) {
            CHECK.is("place " + place, -1, b.kindAt(batch, place));
            CHECK.noIndex("no batch", () -> b.kindAt(b.batchCount(), place));
        }
    }

    /** gapSum: "PRICE to SALES", "over all batches or all sales" */
    private static void sumsOfKinds() {
        PennyBakery empty = Scene.empty();
        for (int kind = PennyBakery.PRICE; kind <= PennyBakery.SALES; kind++) {
            CHECK.is("without batches and sales", 0, empty.gapSum(kind));
        }
        PennyBakery b = Check.bakery("bakery 999 2 1;flour 5;bread 9 1 1;buy 0 99 6;rate 0 3;" + "bake 0 2 burnt 1 more 1 late 1;".repeat(12));
        Check.run(b, "bake 0 2 burnt 1 more 1 late 1;".repeat(12) + "sell 0 1 8;sell 0 1 7;sell 0 2 10;");
        int[] due = {24 * 3, 24 * 5, 60, 24 * 2, 24 * 7, 1 + 2 - 2};
        for (int kind = PennyBakery.PRICE; kind <= PennyBakery.SALES; kind++) {
            CHECK.is("sum of " + kind, due[kind], b.gapSum(kind));
        }
        for (int kind : new int[] {Integer.MIN_VALUE, -1, 6, Integer.MAX_VALUE}) {
            CHECK.noArgument("kind " + kind, () -> b.gapSum(kind));
        }
    }

    /** priceGap, useGap: "of all batches for a flour" */
    private static void gapsOfFlours() {
        StringBuilder setup = new StringBuilder("bakery 99999 0 1;");
        for (int flour = 0; flour < 6; flour++) {
            setup.append("flour ").append(10 + flour).append(";buy ").append(flour).append(" 90 ").append(10 + 2 * flour).append(';');
        }
        PennyBakery b = Check.bakery(setup + "bread 9 1 111111;bread 9 1 111000;");
        b.bake(0, 3, 0, 2, 0);
        b.bake(0, 1, 0, -1, 0);
        b.bake(1, 2, 0, 1, 0);
        for (int flour = 0; flour < 6; flour++) {
            int units = flour == 0 ? 5 : flour < 3 ? 4 : flour == 3 ? 7 : 6;
            CHECK.is("price of " + flour, units * flour, b.priceGap(flour));
            CHECK.is("use of " + flour, flour == 0 ? 10 : flour == 3 ? 13 : 0, b.useGap(flour));
        }
        b.undo();
        CHECK.is("without the last batch", 4 * 3, b.priceGap(3));
        CHECK.is("without the last batch", 0, b.useGap(3));
    }

    /** totalLoss: "over all batches and sales" */
    private static void totalLoss() {
        CHECK.is("nothing", 0, Scene.empty().totalLoss());
        PennyBakery b = Check.bakery("bakery 999 0 1;flour 5;bread 9 1 1;buy 0 9 5;buy 0 9 6;");
        b.buy(0, 9, 99);
        CHECK.is("flour that lies in stock", 0, b.totalLoss());
        b.bake(0, 9, 0, 0, 0);
        CHECK.is("a batch without loss", 0, b.totalLoss());
        b.bake(0, 9, 0, 0, 0);
        CHECK.is("a batch with a loss", 9, b.totalLoss());
        b.sell(0, 1, 8);
        CHECK.is("and a sale", 10, b.totalLoss());
        b.sell(0, 1, 999);
        CHECK.is("savings", 10 - 990, b.totalLoss());
    }

    /** worstBatch: "of several the smallest one; NONE if there is none" */
    private static void worstBatch() {
        PennyBakery b = Check.bakery("bakery 999 0 1;" + ONE + "buy 0 99 1;");
        CHECK.is("none", -1, b.worstBatch());
        b.bake(0, 9, 0, -9, 0);
        CHECK.is("the only one, though a saving", 0, b.worstBatch());
        b.bake(0, 9, 0, -9, 0);
        CHECK.is("of two equal ones", 0, b.worstBatch());
        for (int batch = 2; batch < 24; batch++) {
            b.bake(0, 9, 0, batch == 23 ? -7 : -8, 0);
            CHECK.is("with batch " + batch, batch == 23 ? 23 : 2, b.worstBatch());
        }
        b.undo();
        CHECK.is("without the last one", 2, b.worstBatch());
    }

    /** worstKind: "PRICE to SALES, of several the smallest number" */
    private static void worstKind() {
        CHECK.is("all are 0", 0, Scene.empty().worstKind());
        for (int kind = PennyBakery.PRICE; kind <= PennyBakery.SALES; kind++) {
            if (kind != PennyBakery.BURNT) {
                CHECK.is("kind " + kind + " alone", kind, withParts(TIE_PARTS[kind]).worstKind());
            }
        }
        CHECK.is("burnt alone", 4, withParts("buy 0 1 2;bake 1 1 burnt 1;").worstKind());
        CHECK.is("all others are savings", 4, withParts("buy 0 20 1;rate 0 0;bake 0 9 less 1 early 1;sell 0 9 10;").worstKind());
        ties();
    }

    private static PennyBakery withParts(String script) {
        PennyBakery b = Check.bakery("bakery 9999 1 1;flour 2;bread 9 1 1;bread 9 2 1;");
        CHECK.is("the parts have no error", 1, Check.run(b, script) > 0 ? 1 : 0);
        return b;
    }

    /** Two kinds with the same sum, 4 each, and all others 0. */
    private static void ties() {
        for (int first = PennyBakery.PRICE; first <= PennyBakery.SALES; first++) {
            for (int second = first + 1; second <= PennyBakery.SALES; second++) {
                boolean burnt = first == PennyBakery.BURNT || second == PennyBakery.BURNT;
                int other = first == PennyBakery.BURNT ? second : first;
                PennyBakery b = withParts(burnt ? burntPart(other) : TIE_PARTS[first] + TIE_PARTS[second]);
                CHECK.is("sum of " + first, 4, b.gapSum(first));
                CHECK.is("sum of " + second, 4, b.gapSum(second));
                CHECK.is("of " + first + " and " + second, first, b.worstKind());
            }
        }
    }

    /** One loaf of bread 1, whose standard cost is 4, is burnt, and another kind has the sum 4 too. */
    private static String burntPart(int other) {
        String[] parts = {"buy 0 1 6;", "buy 0 3 2;", "buy 0 1 2;rate 0 3;", "buy 0 1 2;", "", "buy 0 2 2;bake 0 1;sell 0 1 5;"};
        String[] extras = {"", "more 2", "", "late 4", "", ""};
        return parts[other] + "bake 1 1 burnt 1 " + extras[other] + ";";
    }

    /** bakeObstacle: "0 if there is none"; "1 to 20", "-9 to 9" */
    private static void obstacles() {
        PennyBakery b = Check.bakery("bakery 999 0 1;flour 1;bread 1 9 9;buy 0 99 1;buy 0 90 1;");
        CHECK.is("all greatest", 0, b.bakeObstacle(0, 20, 9, 9));
        CHECK.is("all least", 2, b.bakeObstacle(0, 1, -9, -9));
        CHECK.is("least units", 0, b.bakeObstacle(0, 1, -9, -8));
        CHECK.is("all units", 3, Check.bakery("bakery 999 0 1;flour 1;bread 1 9 9;buy 0 99 1;buy 0 89 1;").bakeObstacle(0, 20, 9, 9));
        for (int wrong : new int[] {Integer.MIN_VALUE, -1, 0, 21, 22, Integer.MAX_VALUE}) {
            CHECK.noArgument("loaves " + wrong, () -> b.bakeObstacle(0, wrong, 0, 0));
            CHECK.noIndex("the bread is told first", () -> b.bakeObstacle(1, wrong, 0, 0));
        }
        for (int wrong : new int[] {Integer.MIN_VALUE, -11, -10, 10, 11, Integer.MAX_VALUE}) {
            CHECK.noArgument("extra " + wrong, () -> b.bakeObstacle(0, 1, wrong, 0));
            CHECK.noArgument("late " + wrong, () -> b.bakeObstacle(0, 1, 0, wrong));
            CHECK.noIndex("the bread is told first", () -> b.bakeObstacle(-1, 1, wrong, wrong));
        }
        PennyBakery full = Scene.full();
        CHECK.noArgument("arguments are told before obstacle 1", () -> full.bakeObstacle(0, 21, 0, 0));
        CHECK.is("obstacle 1", 1, full.bakeObstacle(5, 20, 9, 9));
    }

    /** lossIfBaked: "the loss, if it was baked now", "if it cannot be baked" */
    private static void lossIfBaked() {
        PennyBakery b = Check.bakery("bakery 999 3 1;flour 5;bread 9 2 1;buy 0 9 4;buy 0 11 7;rate 0 4;");
        for (int loaves = 1; loaves <= 20; loaves++) {
            int flour = loaves <= 9 ? -loaves : -9 + 2 * (loaves - 9);
            int rate = 2 * loaves;
            CHECK.is("loss of " + loaves, flour + rate, b.lossIfBaked(0, loaves));
            int batch = b.bake(0, loaves, 0, 0, 0);
            CHECK.is("it comes true", flour + rate, b.lossOf(batch));
            b.undo();
        }
        for (int wrong : new int[] {Integer.MIN_VALUE, -1, 0, 21, Integer.MAX_VALUE}) {
            CHECK.noArgument("loaves " + wrong, () -> b.lossIfBaked(0, wrong));
            CHECK.noIndex("the bread is told first", () -> b.lossIfBaked(1, wrong));
        }
        PennyBakery few = Check.bakery("bakery 999 3 1;flour 5;bread 9 2 1;buy 0 19 4;");
        CHECK.is("all units", -19, few.lossIfBaked(0, 19));
        CHECK.noState("one unit too few", () -> few.lossIfBaked(0, 20));
        CHECK.noArgument("the argument is told first", () -> few.lossIfBaked(0, 21));
        few.bake(0, 19, 0, 0, 0);
        CHECK.noState("no unit left", () -> few.lossIfBaked(0, 1));
        PennyBakery full = Scene.full();
        CHECK.noState("24 batches", () -> full.lossIfBaked(0, 1));
        full.undo();
        CHECK.noState("still 24 batches", () -> full.lossIfBaked(5, 20));
        PennyBakery last = Check.bakery("bakery 999 0 1;" + ONE + "buy 0 99 1;" + "bake 0 1;".repeat(23));
        CHECK.is("the 24th batch", 0, last.lossIfBaked(0, 20));
        CHECK.is("it is baked", 23, last.bake(0, 20, 0, 0, 0));
    }

    /** possibleLoaves: "0 to 20" */
    private static void possibleLoaves() {
        for (int units = 0; units <= 24; units++) {
            String stock = units == 0 ? "" : "buy 0 " + units + " 1;";
            PennyBakery b = Check.bakery("bakery 999 0 1;flour 1;flour 1;bread 1 1 1;bread 1 1 3;bread 1 1 13;" + stock);
            CHECK.is("of 1 unit with " + units, Math.min(units, 20), b.possibleLoaves(0));
            CHECK.is("of 3 units with " + units, units / 3, b.possibleLoaves(1));
            CHECK.is("without flour 1", 0, b.possibleLoaves(2));
            b.buy(1, 4, 1);
            CHECK.is("limited by flour 1", Math.min(units / 3, 4), b.possibleLoaves(2));
        }
        PennyBakery b = Check.bakery("bakery 999 0 1;" + ONE + "buy 0 99 1;" + "bake 0 1;".repeat(23));
        CHECK.is("23 batches", 20, b.possibleLoaves(0));
        b.bake(0, 1, 0, 0, 0);
        CHECK.is("24 batches", 0, b.possibleLoaves(0));
        PennyBakery exact = Check.bakery("bakery 9999 0 1;flour 1;bread 1 1 9;buy 0 99 1;buy 0 81 1;");
        CHECK.is("180 units for 20", 20, exact.possibleLoaves(0));
        exact.bake(0, 1, 0, -8, 0);
        CHECK.is("179 units", 19, exact.possibleLoaves(0));
    }

    /** bestWait: "the smallest number of whole hours, 0 to 23, to wait from now on" */
    private static void bestWait() {
        for (int hour = 0; hour < 24; hour++) {
            PennyBakery b = Check.bakery("bakery 0 9 1;flour 1;bread 1 1 1;rate " + hour + " 8;");
            CHECK.is("hour " + hour, hour, b.bestWait(0, 1));
            b.waitMinutes(59);
            CHECK.is("in the last minute", hour, b.bestWait(0, 1));
            CHECK.is("the second of two minutes is in the next hour", Math.max(hour - 1, 0), b.bestWait(0, 2));
            b.waitMinutes(1);
            CHECK.is("an hour later", (hour + 23) % 24, b.bestWait(0, 1));
        }
        PennyBakery b = Check.bakery("bakery 0 9 1;flour 1;bread 1 3 1;");
        CHECK.is("all the same", 0, b.bestWait(0, 20));
        b.setRate(0, 10);
        CHECK.is("any but this hour", 1, b.bestWait(0, 20));
        CHECK.is("one loaf", 1, b.bestWait(0, 1));
        b.setRate(22, 1);
        b.setRate(23, 1);
        CHECK.is("60 minutes of one hour", 22, b.bestWait(0, 20));
        for (int wrong : new int[] {Integer.MIN_VALUE, -1, 0, 21, Integer.MAX_VALUE}) {
            CHECK.noArgument("loaves " + wrong, () -> b.bestWait(0, wrong));
            CHECK.noIndex("the bread is told first", () -> b.bestWait(1, wrong));
        }
    }

    /** bestWait: "so that the minutes of such a batch .. cost least"; an oven that is not free yet is waited for */
    private static void bestWaitAndBusyOvens() {
        PennyBakery b = Check.bakery("bakery 0 9 1;flour 1;bread 1 9 9;rate 3 8;rate 2 7;");
        CHECK.is("the cheapest hour", 2, b.bestWait(0, 1));
        b.bake(0, 1, 0, -9, 9);
        CHECK.is("busy until 18", 2, b.bestWait(0, 1));
        for (int i = 0; i < 4; i++) {
            b.bake(0, 1, 0, -9, 9);
        }
        b.bake(0, 1, 0, -9, 9);
        b.bake(0, 1, 0, -9, 9);
        CHECK.is("busy until 126", 126, b.freeAt(0));
        CHECK.is("the oven waits by itself", 0, b.bestWait(0, 1));
        b.waitMinutes(130);
        CHECK.is("now", 0, b.bestWait(0, 1));
        b.waitMinutes(45);
        CHECK.is("nine minutes of hours 2 and 3 from 175 on", 0, b.bestWait(0, 1));
        b.waitMinutes(60);
        CHECK.is("the same a day later, from 235 on", 23, b.bestWait(0, 1));
        PennyBakery busy = Check.bakery("bakery 9 9 1;flour 1;bread 1 9 1;rate 0 0;bake 0 7 less 7 early 4;");
        CHECK.is("busy but for the last minute of the cheap hour", 59, busy.freeAt(0));
        CHECK.is("24 hours would be cheaper, but 23 are the most", 0, busy.bestWait(0, 6));
        CHECK.is("three hours with the cheap one at their end", 22, busy.bestWait(0, 20));
        PennyBakery full = Check.bakery("bakery 9 9 1;" + ONE + "rate 1 1;" + "bake 0 1 less 1;".repeat(24));
        CHECK.is("with 24 batches", 1, full.bestWait(0, 20));
    }

    /** income, spentOnFlour, spentOnOvens: "the pence for which .." */
    private static void sumsOfMoney() {
        PennyBakery b = Check.bakery("bakery 99999 20 1;flour 1;bread 1 9 1;");
        CHECK.is("nothing", 0, b.income() + b.spentOnFlour() + b.spentOnOvens());
        b.buy(0, 99, 99);
        CHECK.is("greatest lot", 9801, b.spentOnFlour());
        b.buy(0, 1, 1);
        CHECK.is("least lot", 9802, b.spentOnFlour());
        b.bake(0, 20, 0, 9, 9);
        CHECK.is("dearest batch", 189 * 20, b.spentOnOvens());
        b.setRate(3, 0);
        b.bake(0, 1, 1, 0, -8);
        CHECK.is("a free minute", 189 * 20, b.spentOnOvens());
        b.sell(0, 19, 999);
        CHECK.is("dearest sale", 19 * 999, b.income());
        b.sell(0, 1, 1);
        CHECK.is("cheapest sale", 19 * 999 + 1, b.income());
        CHECK.is("cash", 99999 - b.spentOnFlour() - b.spentOnOvens() + b.income(), b.cash());
    }

    /** flourValue: "what was paid for the units in stock"; loafValue: "the standard costs of all loaves in the shop" */
    private static void valuesInStock() {
        CHECK.is("nothing", 0, Scene.empty().flourValue() + Scene.empty().loafValue());
        PennyBakery b = Check.bakery("bakery 99999 20 1;" + "flour 99;".repeat(6) + "bread 1 9 999999;bread 1 1 100000;"
                + "buy 0 99 2;buy 1 99 2;buy 2 99 2;buy 3 99 2;buy 4 99 2;buy 5 99 3;".repeat(2));
        CHECK.is("flour", 198 * 13, b.flourValue());
        b.bake(0, 20, 20, 0, 0);
        CHECK.is("the rest of each flour", 18 * 13, b.flourValue());
        CHECK.is("burnt loaves have no value", 0, b.loafValue());
        b.bake(1, 18, 0, 0, 0);
        CHECK.is("all of flour 5", 18 * 10, b.flourValue());
        CHECK.is("loaves", 18 * 119, b.loafValue());
    }

    /** consistencyError: "always 0" */
    private static void consistency() {
        CHECK.is("nothing", 0, Scene.empty().consistencyError());
        CHECK.is("at first", 0, new PennyBakery().consistencyError());
        CHECK.is("everything full", 0, Scene.full().consistencyError());
        PennyBakery b = Scene.busy();
        CHECK.is("a busy one", 0, b.consistencyError());
        for (int left = b.undoCount(); left > 0; left--) {
            b.undo();
            CHECK.is("after undo", 0, b.consistencyError());
        }
        b.restore(1);
        CHECK.is("after restore", 0, b.consistencyError());
        PennyBakery poor = Check.bakery("bakery 0 20 1;flour 99;bread 999 9 9;bake 0 1 less 9 late 9 burnt 1;bake 0 1 less 9;sell 0 1 1;");
        CHECK.is("cash less than 0", 0, poor.consistencyError());
        PennyBakery sold = Check.bakery("bakery 99 1 1;flour 2;bread 9 1 1;bread 8 1 2;buy 0 9 2;bake 0 3;bake 1 3;");
        for (int i = 1; i <= 3; i++) {
            sold.sell(0, 1, 10);
            sold.sell(1, 1, i);
            CHECK.is("after sale " + i, 0, sold.consistencyError());
        }
    }

    /** meanLoss: "0.0 without batches" */
    private static void meanLoss() {
        CHECK.isReal("without batches", 0.0, Scene.empty().meanLoss());
        PennyBakery b = Check.bakery("bakery 999 0 1;flour 1;bread 1 1 1;buy 0 99 1;");
        int[] extras = {1, 0, -1, -1, 5, 5, 5};
        int sum = 0;
        for (int i = 0; i < extras.length; i++) {
            b.bake(0, 2, 0, extras[i], 0);
            sum += extras[i];
            CHECK.isReal("mean of " + (i + 1), (double) sum / (double) (i + 1), b.meanLoss());
        }
        PennyBakery many = Check.bakery("bakery 999 0 1;flour 1;bread 1 1 1;buy 0 99 1;" + "bake 0 1;".repeat(23) + "bake 0 1 more 1;");
        CHECK.isReal("of 24", 1.0 / 24.0, many.meanLoss());
        PennyBakery sold = Check.bakery("bakery 999 0 1;flour 1;bread 9 1 1;buy 0 99 1;bake 0 1;sell 0 1 1;");
        CHECK.isReal("sales are no losses of batches", 0.0, sold.meanLoss());
    }

    /** burntShare: "0.0f without batches" */
    private static void burntShare() {
        CHECK.isReal("without batches", 0.0f, Scene.empty().burntShare());
        PennyBakery b = Check.bakery("bakery 999 0 1;flour 1;bread 1 1 1;buy 0 99 1;");
        b.bake(0, 1, 0, 0, 0);
        CHECK.isReal("none", 0.0f, b.burntShare());
        b.undo();
        b.bake(0, 1, 1, 0, 0);
        CHECK.isReal("all", 1.0f, b.burntShare());
        b.bake(0, 2, 0, 0, 0);
        CHECK.isReal("a third, as float", 1.0f / 3.0f, b.burntShare());
        b.bake(0, 20, 6, 0, 0);
        CHECK.isReal("of all batches", 7.0f / 23.0f, b.burntShare());
        b.sell(0, 9, 1);
        CHECK.isReal("sold ones count too", 7.0f / 23.0f, b.burntShare());
    }

    /** "predictions; nothing changes", and no other question changes anything */
    private static void questionsChangeNothing() {
        CHECK.isText("nothing changes", Scene.all(Scene::busy), Scene.all(CallEdgesTest::questioned));
    }

    private static PennyBakery questioned() {
        PennyBakery b = Scene.busy();
        Check.stateOf(b);
        Check.output(b);
        for (int bread = 0; bread < b.breadCount(); bread++) {
            for (int loaves = 1; loaves <= 20; loaves += 19) {
                b.bakeObstacle(bread, loaves, 9, -9);
                b.bestWait(bread, loaves);
            }
            b.possibleLoaves(bread);
        }
        b.lossIfBaked(0, 1);
        b.lossIfBaked(1, 2);
        for (int place = -1; place <= 5; place++) {
            b.kindAt(0, place);
        }
        return b;
    }
}
