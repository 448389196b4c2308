/**
 * The boundary cases that the section "Terms" names, sentence by sentence, but for those of texts
 * (TextEdgesTest) and of changes and undo (ChangeEdgesTest). Above each test stands its sentence.
 */
final class TermsEdgesTest {
    private static final Check CHECK = new Check("TermsEdgesTest");
    /** A loaf of bread 0 uses one unit and one minute, and so none with one unit less. */
    private static final String ONE = "flour 1;bread 1 1 1;";
    private static final String SIX_FLOURS = "flour 1;flour 1;flour 1;flour 1;flour 1;flour 1;";

    public static void main(String[] args) {
        cashBelowNothing();
        minutesFromNothing();
        hourOfAMinute();
        hoursOfABatch();
        sixFlours();
        priceOfAFlour();
        twelveLots();
        oneUnit();
        orderOfLots();
        unitsOfTheFirstLots();
        sixBreads();
        numbersOfABread();
        digitsOfARecipe();
        amountsOfOtherFlours();
        mainFlour();
        standardCost();
        loavesInTheShop();
        ovens();
        ratesAtFirst();
        ratesOfHours();
        ovensAtFirst();
        manyBatches();
        numbersOfABatch();
        unitsOfABatch();
        ovenOfABatch();
        startOfABatch();
        minutesOfABatch();
        afterABatch();
        obstacleOfManyBatches();
        obstacleOfUnits();
        obstacleOfMinutes();
        obstacleOfStock();
        firstObstacle();
        leastGaps();
        greatestGaps();
        salesGap();
        lossIsSumOfGaps();
        CHECK.end();
    }

    /** "The cash may be less than 0." */
    private static void cashBelowNothing() {
        PennyBakery b = Check.bakery("bakery 1 1 1;" + ONE);
        b.bake(0, 1, 0, -1, 0);
        CHECK.is("cash", 0, b.cash());
        b.bake(0, 1, 0, -1, 0);
        CHECK.is("cash below nothing", -1, b.cash());
        b.bake(0, 9, 0, -9, 0);
        CHECK.is("nine minutes more", -10, b.cash());
        CHECK.is("above nothing again", 1, b.sell(0, 11, 1));
        CHECK.is("in a text too", 2, Check.load(b, "bakery 0 20 1;flour 1;bread 1 9 1;bake 0 1 less 1;bake 0 1 less 1;"));
        CHECK.is("cash of the text", -360, b.cash());
    }

    /** "Minutes are numbered from 0; the clock tells the present minute." */
    private static void minutesFromNothing() {
        PennyBakery b = Check.bakery("bakery 1 1 1;" + ONE);
        CHECK.is("the first minute", 0, b.clock());
        b.bake(0, 1, 0, -1, 0);
        CHECK.is("a batch starts in it", 0, b.startOf(0));
        CHECK.is("the next minute", 1, b.waitMinutes(1));
        CHECK.is("it is the present one", 1, b.clock());
    }

    /** "The hour of a minute is the minute divided by 60, rounded down, modulo 24." */
    private static void hourOfAMinute() {
        for (int hour = 0; hour < 24; hour++) {
            for (int day = 0; day < 3; day++) {
                int first = 60 * (24 * day + hour);
                CHECK.is("first minute of hour " + hour, 20, priceOfMinute(first, hour));
                CHECK.is("last minute of hour " + hour, 20, priceOfMinute(first + 59, hour));
                CHECK.is("minute behind hour " + hour, 0, priceOfMinute(first + 60, hour));
                if (first > 0) {
                    CHECK.is("minute before hour " + hour, 0, priceOfMinute(first - 1, hour));
                }
            }
        }
    }

    /** What a minute costs if the minutes of one hour cost 20 and all others nothing. */
    private static int priceOfMinute(int minute, int hour) {
        PennyBakery b = Check.bakery("bakery 0 0 1;" + ONE);
        b.setRate(hour, 20);
        waitUntil(b, minute);
        b.bake(0, 1, 0, -1, 0);
        return b.spentOnOvens();
    }

    private static void waitUntil(PennyBakery b, int minute) {
        while (b.clock() < minute) {
            b.waitMinutes(Math.min(999, minute - b.clock()));
        }
    }

    /** "each minute costs the rate of its hour" */
    private static void hoursOfABatch() {
        PennyBakery b = Check.bakery("bakery 0 0 1;flour 1;bread 1 9 1;rate 22 1;rate 23 2;rate 0 3;rate 1 5;");
        waitUntil(b, 1439);
        b.bake(0, 1, 0, -1, -7);
        CHECK.is("the last minute of a day and the first", 2 + 3, b.costOf(0));
        b.bake(0, 1, 0, -1, -8);
        CHECK.is("one minute", 3, b.costOf(1));
        b.bake(0, 7, 0, -7, -5);
        CHECK.is("up to the last minute of the hour", 58 * 3, b.costOf(2));
        CHECK.is("its end is the hour's", 1500, b.freeAt(0));
        b.bake(0, 7, 0, -7, -2);
        CHECK.is("one minute more than the hour", 60 * 5, b.costOf(3));
        PennyBakery longest = Check.bakery("bakery 180 0 1;flour 1;bread 1 9 1;rate 22 1;rate 23 2;rate 0 3;rate 1 5;buy 0 20 1;");
        waitUntil(longest, 22 * 60 + 59);
        longest.bake(0, 20, 0, 0, 9);
        CHECK.is("189 minutes in five hours", 1 + 60 * 2 + 60 * 3 + 60 * 5 + 8 * 0, longest.spentOnOvens());
    }

    /** "There are at most 6 flours with the indices 0, 1, 2 and so on." */
    private static void sixFlours() {
        PennyBakery b = Check.bakery("bakery 0 0 1;");
        CHECK.is("no flours", 0, b.flourCount());
        CHECK.noIndex("flour 0 of none", () -> b.flourPrice(0));
        for (int flour = 0; flour < 6; flour++) {
            int next = flour + 1;
            CHECK.is("the index", flour, b.addFlour(10 + flour));
            CHECK.is("flours", next, b.flourCount());
            CHECK.is("the new one is the last one", 10 + flour, b.flourPrice(flour));
            CHECK.noIndex("the next one", () -> b.flourPrice(next));
        }
        CHECK.noState("a 7th flour", () -> b.addFlour(1));
        CHECK.is("still six", 6, b.flourCount());
    }

    /** "A flour has a standard price of a unit (1 to 99)." */
    private static void priceOfAFlour() {
        PennyBakery b = Check.bakery("bakery 0 0 1;");
        CHECK.noArgument("price 0", () -> b.addFlour(0));
        b.addFlour(1);
        b.addFlour(99);
        CHECK.noArgument("price 100", () -> b.addFlour(100));
        CHECK.is("least price", 1, b.flourPrice(0));
        CHECK.is("greatest price", 99, b.flourPrice(1));
        CHECK.is("two flours", 2, b.flourCount());
    }

    /** "Its stock consists of at most 12 lots" */
    private static void twelveLots() {
        PennyBakery b = Check.bakery("bakery 99 0 1;flour 1;flour 1;bread 1 1 1;");
        CHECK.is("no lots", 0, b.lotsOf(0));
        for (int lot = 1; lot <= 12; lot++) {
            b.buy(0, 2, 1);
            CHECK.is("lots", lot, b.lotsOf(0));
        }
        CHECK.noState("a 13th lot", () -> b.buy(0, 1, 1));
        CHECK.is("still twelve", 12, b.lotsOf(0));
        CHECK.is("the other flour has its own lots", 74, b.buy(1, 1, 1));
        b.bake(0, 1, 0, 0, 0);
        CHECK.noState("a lot with one unit is one", () -> b.buy(0, 1, 1));
        b.bake(0, 1, 0, 0, 0);
        CHECK.is("room for a lot again", 73, b.buy(0, 1, 1));
        CHECK.noState("and for no second one", () -> b.buy(0, 1, 1));
        b.undo();
        CHECK.is("room after undo", 73, b.buy(0, 1, 1));
    }

    /** "a lot has a number of units, 1 or more, and the price of a unit that was paid" */
    private static void oneUnit() {
        PennyBakery b = Check.bakery("bakery 9999 0 1;flour 50;");
        CHECK.noArgument("no unit", () -> b.buy(0, 0, 1));
        b.buy(0, 1, 99);
        b.buy(0, 99, 1);
        CHECK.is("one unit", 1, b.lotUnits(0, 0));
        CHECK.is("greatest price", 99, b.lotPrice(0, 0));
        CHECK.is("99 units", 99, b.lotUnits(0, 1));
        CHECK.is("least price", 1, b.lotPrice(0, 1));
    }

    /** "in the order in which they were bought" */
    private static void orderOfLots() {
        PennyBakery b = Check.bakery("bakery 999 0 1;flour 5;bread 1 1 1;buy 0 3 9;buy 0 2 4;buy 0 2 4;buy 0 1 7;");
        int[][] due = {{3, 9}, {2, 4}, {2, 4}, {1, 7}};
        lots(b, "equal lots stay apart", due);
        b.bake(0, 3, 0, 0, 0);
        b.buy(0, 6, 1);
        lots(b, "a new one is the last one", new int[][] {{2, 4}, {2, 4}, {1, 7}, {6, 1}});
    }

    private static void lots(PennyBakery b, String what, int[][] due) {
        CHECK.is(what + ": lots", due.length, b.lotsOf(0));
        for (int lot = 0; lot < due.length; lot++) {
            CHECK.is(what + ": units of " + lot, due[lot][0], b.lotUnits(0, lot));
            CHECK.is(what + ": price of " + lot, due[lot][1], b.lotPrice(0, lot));
        }
        CHECK.noIndex(what + ": no more units", () -> b.lotUnits(0, due.length));
        CHECK.noIndex(what + ": no more prices", () -> b.lotPrice(0, due.length));
    }

    /** "When units are used, they are taken from the first lots; a lot without units vanishes." */
    private static void unitsOfTheFirstLots() {
        String setup = "bakery 999 0 1;flour 5;bread 1 1 1;buy 0 3 9;buy 0 2 4;buy 0 4 7;";
        int[][][] due = {
            {{3, 9}, {2, 4}, {4, 7}}, {{2, 9}, {2, 4}, {4, 7}}, {{1, 9}, {2, 4}, {4, 7}}, {{2, 4}, {4, 7}}, {{1, 4}, {4, 7}},
            {{4, 7}}, {{3, 7}}, {{2, 7}}, {{1, 7}}, {}};
        int[] paid = {0, 9, 18, 27, 31, 35, 42, 49, 56, 63};
        for (int units = 0; units <= 9; units++) {
            PennyBakery b = Check.bakery(setup);
            b.bake(0, 9, 0, units - 9, 0);
            lots(b, units + " units used", due[units]);
            CHECK.is("paid for " + units, paid[units], b.costOf(0));
            CHECK.is("left of " + units, 9 - units, b.unitsOf(0));
            CHECK.is("value left of " + units, 63 - paid[units], b.flourValue());
        }
        PennyBakery b = Check.bakery("bakery 999 0 1;flour 5;bread 1 1 1;" + "buy 0 1 3;".repeat(12));
        b.bake(0, 12, 0, 0, 0);
        CHECK.is("twelve lots vanish at once", 0, b.lotsOf(0));
        CHECK.is("no units", 0, b.unitsOf(0));
    }

    /** "There are at most 6 breads with such indices." */
    private static void sixBreads() {
        PennyBakery b = Check.bakery("bakery 0 0 1;flour 1;");
        CHECK.is("no breads", 0, b.breadCount());
        CHECK.noIndex("bread 0 of none", () -> b.listPrice(0));
        for (int bread = 0; bread < 6; bread++) {
            int next = bread + 1;
            CHECK.is("the index", bread, b.addBread(100 + bread, 1, 1));
            CHECK.is("breads", next, b.breadCount());
            CHECK.is("the new one is the last one", 100 + bread, b.listPrice(bread));
            CHECK.noIndex("the next one", () -> b.listPrice(next));
        }
        CHECK.noState("a 7th bread", () -> b.addBread(1, 1, 1));
        CHECK.is("still six", 6, b.breadCount());
    }

    /** "A bread has a list price of a loaf (1 to 999), a number of standard minutes for a loaf (1 to 9)" */
    private static void numbersOfABread() {
        PennyBakery b = Check.bakery("bakery 0 0 1;flour 1;");
        CHECK.noArgument("list price 0", () -> b.addBread(0, 1, 1));
        CHECK.noArgument("list price 1000", () -> b.addBread(1000, 1, 1));
        CHECK.noArgument("no minutes", () -> b.addBread(1, 0, 1));
        CHECK.noArgument("10 minutes", () -> b.addBread(1, 10, 1));
        b.addBread(1, 9, 1);
        b.addBread(999, 1, 9);
        CHECK.is("least price", 1, b.listPrice(0));
        CHECK.is("greatest price", 999, b.listPrice(1));
        CHECK.is("greatest minutes", 9, b.minutesOf(0));
        CHECK.is("least minutes", 1, b.minutesOf(1));
    }

    /** "a number whose last decimal digit is the amount of flour 0, whose last digit but one is that of flour 1, and so on" */
    private static void digitsOfARecipe() {
        int recipe = 1;
        for (int flour = 0; flour < 6; flour++) {
            for (int amount = 1; amount <= 9; amount += 8) {
                PennyBakery b = Check.bakery("bakery 0 0 1;" + SIX_FLOURS);
                b.addBread(1, 1, recipe * amount);
                for (int other = 0; other < 6; other++) {
                    CHECK.is("amount of " + other, other == flour ? amount : 0, b.amountOf(0, other));
                }
            }
            recipe *= 10;
        }
        PennyBakery b = Check.bakery("bakery 0 0 1;" + SIX_FLOURS + "bread 1 1 999999;bread 1 1 102030;bread 1 1 000007;");
        for (int flour = 0; flour < 6; flour++) {
            CHECK.is("all nines", 9, b.amountOf(0, flour));
            CHECK.is("zeros between", new int[] {0, 3, 0, 2, 0, 1}[flour], b.amountOf(1, flour));
            CHECK.is("zeros in front", flour == 0 ? 7 : 0, b.amountOf(2, flour));
        }
    }

    /** "amounts of flours that do not exist are 0, and one amount at least is not" */
    private static void amountsOfOtherFlours() {
        PennyBakery b = Check.bakery("bakery 0 0 1;");
        int greatest = 0;
        for (int flours = 0; flours <= 6; flours++) {
            int beyond = greatest + 1;
            CHECK.noArgument("an amount of flour " + flours, () -> b.addBread(1, 1, beyond));
            CHECK.noArgument("no amount of " + flours + " flours", () -> b.addBread(1, 1, 0));
            if (flours > 0) {
                int allowed = greatest;
                CHECK.is("nine of all " + flours, b.breadCount(), b.addBread(1, 1, allowed));
                b.undo();
            }
            if (flours < 6) {
                b.addFlour(1);
                greatest = greatest * 10 + 9;
            }
        }
        PennyBakery later = Check.bakery("bakery 0 0 1;flour 1;bread 1 1 9;flour 1;");
        CHECK.is("of a flour that came later", 0, later.amountOf(0, 1));
    }

    /** "The main flour of a bread is the one with the smallest index in the recipe." */
    private static void mainFlour() {
        String lots = "buy 0 50 1;buy 1 50 1;buy 2 50 1;buy 3 50 1;buy 4 50 1;buy 5 50 1;";
        int recipe = 999999;
        int digit = 1;
        for (int flour = 0; flour < 6; flour++) {
            PennyBakery b = Check.bakery("bakery 999 0 1;" + SIX_FLOURS + lots + "bread 1 1 " + recipe + ";");
            b.bake(0, 1, 0, 1, 0);
            for (int other = 0; other < 6; other++) {
                int used = other < flour ? 0 : other == flour ? 10 : 9;
                CHECK.is("units of " + other + " for " + recipe, 50 - used, b.unitsOf(other));
                CHECK.is("use of " + other + " for " + recipe, other == flour ? 1 : 0, b.useGap(other));
            }
            recipe -= 9 * digit;
            digit *= 10;
        }
    }

    /** "The standard cost of a loaf is the sum of the amounts multiplied by the standard prices of the flours, plus .." */
    private static void standardCost() {
        PennyBakery least = Check.bakery("bakery 0 0 1;flour 1;bread 999 9 1;");
        CHECK.is("least", 1, least.standardCost(0));
        PennyBakery greatest = Check.bakery("bakery 0 20 1;" + "flour 99;".repeat(6) + "bread 1 9 999999;");
        CHECK.is("greatest", 6 * 9 * 99 + 9 * 20, greatest.standardCost(0));
        PennyBakery b = Check.bakery("bakery 0 20 1;flour 99;bread 1 1 1;rate 0 0;");
        CHECK.is("the standard rate, not that of an hour", 99 + 20, b.standardCost(0));
    }

    /** "Loaves that were baked well lie in the shop until they are sold." */
    private static void loavesInTheShop() {
        PennyBakery b = Check.bakery("bakery 99 0 1;" + ONE + "buy 0 99 1;");
        b.bake(0, 20, 20, 0, 0);
        CHECK.is("all burnt", 0, b.loavesOf(0));
        CHECK.noState("burnt loaves are not sold", () -> b.sell(0, 1, 1));
        b.bake(0, 20, 19, 0, 0);
        CHECK.is("all but one burnt", 1, b.loavesOf(0));
        b.bake(0, 20, 0, 0, 0);
        CHECK.is("none burnt", 21, b.loavesOf(0));
        b.waitMinutes(999);
        CHECK.is("they stay", 21, b.loavesOf(0));
        CHECK.noState("one too many", () -> b.sell(0, 22, 1));
        b.sell(0, 21, 1);
        CHECK.is("all sold", 0, b.loavesOf(0));
    }

    /** "There are 1 to 3 ovens, numbered from 0." */
    private static void ovens() {
        PennyBakery b = new PennyBakery();
        CHECK.is("no ovens", -1, Check.load(b, "bakery 0 0 0;"));
        CHECK.is("4 ovens", -1, Check.load(b, "bakery 0 0 4;"));
        CHECK.is("the old ones stay", 2, b.ovenCount());
        for (int ovens = 1; ovens <= 3; ovens++) {
            int count = ovens;
            CHECK.is("a setup", 0, Check.load(b, "bakery 0 0 " + ovens + ";"));
            CHECK.is("ovens", ovens, b.ovenCount());
            CHECK.is("the last one", 0, b.freeAt(ovens - 1));
            CHECK.noIndex("one more", () -> b.freeAt(count));
            CHECK.noIndex("oven -1", () -> b.freeAt(-1));
        }
    }

    /** "it is the standard rate for all hours at first" */
    private static void ratesAtFirst() {
        for (int rate = 0; rate <= 20; rate += 20) {
            PennyBakery b = Check.bakery("bakery 0 " + rate + " 1;");
            CHECK.is("standard rate", rate, b.standardRate());
            for (int hour = 0; hour < 24; hour++) {
                CHECK.is("rate of hour " + hour, rate, b.rateAt(hour));
            }
        }
        PennyBakery b = new PennyBakery();
        CHECK.is("standard rate 21", -1, Check.load(b, "bakery 0 21 1;"));
        CHECK.is("rate of hour 1", 4, b.rateAt(1));
        CHECK.is("a setup", 0, Check.load(b, "bakery 0 2 1;"));
        CHECK.is("rates of the former bakery are gone", 2, b.rateAt(1));
    }

    /** "The rate of an hour (0 to 20) is the price of a minute in this hour" */
    private static void ratesOfHours() {
        PennyBakery b = Check.bakery("bakery 0 10 1;");
        for (int hour = 0; hour < 24; hour++) {
            CHECK.is("free", 10, b.setRate(hour, 0));
            CHECK.is("dearest", 0, b.setRate(hour, 20));
            CHECK.is("rate", 20, b.rateAt(hour));
            CHECK.is("the next hour", 10, hour == 23 ? 10 : b.rateAt(hour + 1));
        }
        CHECK.noArgument("rate -1", () -> b.setRate(0, -1));
        CHECK.noArgument("rate 21", () -> b.setRate(0, 21));
        CHECK.is("the standard rate stays", 10, b.standardRate());
    }

    /** "An oven is free from some minute on, which is 0 at first." */
    private static void ovensAtFirst() {
        PennyBakery b = Check.bakery("bakery 0 0 3;wait 999;");
        for (int oven = 0; oven < 3; oven++) {
            CHECK.is("free at first, though the clock went on", 0, b.freeAt(oven));
        }
        CHECK.is("the first of them is next", 0, b.nextOven());
    }

    /** "There are at most 24 batches, numbered from 0." */
    private static void manyBatches() {
        PennyBakery b = Check.bakery("bakery 99 0 1;" + ONE + "buy 0 99 1;");
        CHECK.is("no batches", 0, b.batchCount());
        CHECK.noIndex("batch 0 of none", () -> b.batchBread(0));
        for (int batch = 0; batch < 24; batch++) {
            int next = batch + 1;
            CHECK.is("number", batch, b.bake(0, 1, 0, 0, 0));
            CHECK.is("batches", next, b.batchCount());
            CHECK.noIndex("the next one", () -> b.batchBread(next));
        }
        CHECK.noState("a 25th batch", () -> b.bake(0, 1, 0, 0, 0));
        CHECK.is("still 24", 24, b.batchCount());
        CHECK.is("units for the 24 alone", 75, b.unitsOf(0));
        b.undo();
        CHECK.is("the last one again", 23, b.bake(0, 1, 0, 0, 0));
    }

    /** "a number of planned loaves (1 to 20), some of which are burnt, extra units (-9 to 9) .., and late minutes (-9 to 9)" */
    private static void numbersOfABatch() {
        PennyBakery b = Check.bakery("bakery 99 0 1;" + ONE + "buy 0 99 1;");
        CHECK.noArgument("no loaves", () -> b.bake(0, 0, 0, 0, 0));
        CHECK.noArgument("21 loaves", () -> b.bake(0, 21, 0, 0, 0));
        CHECK.noArgument("burnt -1", () -> b.bake(0, 10, -1, 0, 0));
        CHECK.noArgument("burnt 11 of 10", () -> b.bake(0, 10, 11, 0, 0));
        CHECK.noArgument("burnt 2 of 1", () -> b.bake(0, 1, 2, 0, 0));
        CHECK.noArgument("burnt 21 of 20", () -> b.bake(0, 20, 21, 0, 0));
        CHECK.noArgument("10 extra units", () -> b.bake(0, 20, 0, 10, 0));
        CHECK.noArgument("10 units less", () -> b.bake(0, 20, 0, -10, 0));
        CHECK.noArgument("10 minutes late", () -> b.bake(0, 20, 0, 0, 10));
        CHECK.noArgument("10 minutes early", () -> b.bake(0, 20, 0, 0, -10));
        CHECK.is("no batch", 0, b.batchCount());
        CHECK.is("one loaf, none burnt", 0, b.bake(0, 1, 0, 0, 0));
        CHECK.is("one loaf, burnt", 1, b.bake(0, 1, 1, 0, 0));
        CHECK.is("20 loaves, all burnt", 2, b.bake(0, 20, 20, 9, 9));
        CHECK.is("20 loaves, none burnt", 3, b.bake(0, 20, 0, -9, -9));
        CHECK.is("good of 1", 1, b.goodLoaves(0));
        CHECK.is("good of 1, burnt", 0, b.goodLoaves(1));
        CHECK.is("good of 20, burnt", 0, b.goodLoaves(2));
        CHECK.is("good of 20", 20, b.goodLoaves(3));
    }

    /** "the amount of the recipe multiplied by the planned loaves, and of the main flour the extra units besides" */
    private static void unitsOfABatch() {
        String setup = "bakery 999 0 1;flour 1;flour 1;flour 1;bread 1 1 290;buy 0 99 1;buy 1 99 1;buy 1 99 1;buy 2 99 1;";
        PennyBakery b = Check.bakery(setup);
        b.bake(0, 20, 20, 9, 0);
        CHECK.is("none of a flour that is not in the recipe", 99, b.unitsOf(0));
        CHECK.is("the main flour", 198 - 189, b.unitsOf(1));
        CHECK.is("no extra units of another flour", 99 - 40, b.unitsOf(2));
        b.undo();
        b.bake(0, 1, 0, -9, 0);
        CHECK.is("no unit of the main flour", 198, b.unitsOf(1));
        CHECK.is("all of the other one", 97, b.unitsOf(2));
        b.bake(0, 1, 0, -8, 0);
        CHECK.is("one unit of the main flour", 197, b.unitsOf(1));
        CHECK.is("the extra units of the other one are none", 95, b.unitsOf(2));
    }

    /** "in the oven that is free first, of several in the one with the smallest number" */
    private static void ovenOfABatch() {
        PennyBakery b = Check.bakery("bakery 99 0 3;" + ONE + "buy 0 99 1;");
        int[][] due = {
            // loaves, the oven before, and when each oven is free afterwards
            {5, 0, 5, 0, 0}, {4, 1, 5, 4, 0}, {4, 2, 5, 4, 4}, {1, 1, 5, 5, 4}, {1, 2, 5, 5, 5}, {2, 0, 7, 5, 5},
            {1, 1, 7, 6, 5}, {2, 2, 7, 6, 7}, {1, 1, 7, 7, 7}, {1, 0, 8, 7, 7}};
        for (int[] row : due) {
            CHECK.is("the next oven", row[1], b.nextOven());
            b.bake(0, row[0], 0, 0, 0);
            for (int oven = 0; oven < 3; oven++) {
                CHECK.is("oven " + oven + " is free", row[2 + oven], b.freeAt(oven));
            }
        }
        b.waitMinutes(50);
        CHECK.is("all are free, the one that was free first", 1, b.nextOven());
        b.bake(0, 1, 0, 0, 0);
        CHECK.is("it", 59 - 8, b.freeAt(1));
        CHECK.is("the next one", 2, b.nextOven());
    }

    /** "from the minute on from which this oven is free, but not before the clock" */
    private static void startOfABatch() {
        for (int clock = 1; clock <= 14; clock++) {
            PennyBakery b = Check.bakery("bakery 99 0 1;" + ONE + "buy 0 99 1;bake 0 10;wait " + clock + ";");
            b.bake(0, 1, 0, 0, 0);
            CHECK.is("start at clock " + clock, clock < 10 ? 10 : clock, b.startOf(1));
        }
        PennyBakery b = Check.bakery("bakery 99 0 2;" + ONE + "buy 0 99 1;bake 0 10;bake 0 8;");
        b.bake(0, 1, 0, 0, 0);
        CHECK.is("start in the oven that is free first", 8, b.startOf(2));
    }

    /** "for the standard minutes multiplied by the planned loaves, plus the late minutes" */
    private static void minutesOfABatch() {
        PennyBakery b = Check.bakery("bakery 99 0 1;flour 1;bread 1 1 1;bread 1 9 1;buy 0 99 1;");
        b.bake(0, 1, 0, 0, 0);
        CHECK.is("one minute", 1, b.ovenMinutes(0));
        b.bake(0, 10, 0, 0, -9);
        CHECK.is("one minute, early", 1, b.ovenMinutes(1));
        b.bake(1, 20, 0, 0, 9);
        CHECK.is("greatest", 189, b.ovenMinutes(2));
        b.bake(1, 20, 20, 0, -9);
        CHECK.is("burnt loaves take their minutes", 171, b.ovenMinutes(3));
    }

    /** "Afterwards the oven is free from the minute behind its last one on. The clock stays." */
    private static void afterABatch() {
        PennyBakery b = Check.bakery("bakery 99 0 1;" + ONE + "buy 0 99 1;wait 7;");
        b.bake(0, 1, 0, 0, 0);
        CHECK.is("one minute", 8, b.freeAt(0));
        CHECK.is("the clock", 7, b.clock());
        b.bake(0, 20, 0, 0, 9);
        CHECK.is("behind the minutes 8 to 36", 37, b.freeAt(0));
        CHECK.is("the clock", 7, b.clock());
    }

    /** "1 there are 24 batches" */
    private static void obstacleOfManyBatches() {
        PennyBakery b = Check.bakery("bakery 99 0 1;" + ONE + "buy 0 99 1;" + "bake 0 1;".repeat(23));
        CHECK.is("23 batches", 0, b.bakeObstacle(0, 1, 0, 0));
        b.bake(0, 1, 0, 0, 0);
        CHECK.is("24 batches", 1, b.bakeObstacle(0, 1, 0, 0));
        CHECK.is("24 batches, no units and too few minutes", 1, b.bakeObstacle(0, 1, -9, -9));
        PennyBakery empty = Check.bakery("bakery 99 0 1;" + ONE + "buy 0 24 1;" + "bake 0 1;".repeat(24));
        CHECK.is("24 batches and no unit left", 1, empty.bakeObstacle(0, 1, 0, 0));
    }

    /** "2 it would use fewer than 0 units of the main flour" */
    private static void obstacleOfUnits() {
        PennyBakery b = Check.bakery("bakery 99 0 1;flour 1;flour 1;bread 1 9 1;bread 1 9 20;buy 0 20 1;buy 1 20 1;");
        for (int extra = -9; extra <= 9; extra++) {
            CHECK.is("5 loaves of 1 unit and " + extra, extra < -5 ? 2 : 0, b.bakeObstacle(0, 5, extra, 0));
            CHECK.is("2 loaves of 2 units and " + extra, extra < -4 ? 2 : 0, b.bakeObstacle(1, 2, extra, 0));
        }
        CHECK.noState("-1 unit", () -> b.bake(0, 5, 0, -6, 0));
        CHECK.is("0 units", 0, b.bake(0, 5, 0, -5, 0));
    }

    /** "or fewer than 1 minute" */
    private static void obstacleOfMinutes() {
        PennyBakery b = Check.bakery("bakery 99 0 1;flour 1;bread 1 1 1;bread 1 3 1;buy 0 20 1;");
        for (int late = -9; late <= 9; late++) {
            CHECK.is("5 minutes and " + late, 5 + late < 1 ? 2 : 0, b.bakeObstacle(0, 5, 0, late));
            CHECK.is("6 minutes and " + late, 6 + late < 1 ? 2 : 0, b.bakeObstacle(1, 2, 0, late));
        }
        CHECK.noState("0 minutes", () -> b.bake(0, 5, 0, 0, -5));
        CHECK.is("1 minute", 0, b.bake(0, 5, 0, 0, -4));
        CHECK.is("1 minute", 1, b.ovenMinutes(0));
    }

    /** "3 there are too few units of a flour" */
    private static void obstacleOfStock() {
        String setup = "bakery 999 0 1;" + SIX_FLOURS + "bread 1 1 111111;";
        for (int flour = 0; flour < 6; flour++) {
            StringBuilder lots = new StringBuilder();
            for (int other = 0; other < 6; other++) {
                lots.append("buy ").append(other).append(other == flour ? " 4 1;" : " 5 1;");
            }
            PennyBakery b = Check.bakery(setup + lots);
            CHECK.is("one unit of flour " + flour + " is missing", 3, b.bakeObstacle(0, 5, 0, 0));
            CHECK.is("4 loaves", 0, b.bakeObstacle(0, 4, 0, 0));
            CHECK.is("one unit of flour 0 less", flour == 0 ? 0 : 3, b.bakeObstacle(0, 5, -1, 0));
            CHECK.is("one unit of flour 0 more", flour == 0 ? 3 : 0, b.bakeObstacle(0, 4, 1, 0));
            CHECK.noState("too few units", () -> b.bake(0, 5, 0, 0, 0));
            b.buy(flour, 1, 1);
            CHECK.is("it is there", 0, b.bakeObstacle(0, 5, 0, 0));
            CHECK.is("all units", 0, b.bake(0, 5, 0, 0, 0));
        }
        PennyBakery none = Check.bakery("bakery 0 0 1;" + ONE);
        CHECK.is("no lots", 3, none.bakeObstacle(0, 1, 0, 0));
        CHECK.is("no lots and no units needed", 0, none.bakeObstacle(0, 1, -1, 0));
    }

    /** "the first one that applies is the obstacle" */
    private static void firstObstacle() {
        PennyBakery b = Check.bakery("bakery 999 0 1;flour 1;flour 1;bread 1 1 12;buy 0 99 1;");
        CHECK.is("units below 0, flour 1 missing", 2, b.bakeObstacle(0, 1, -3, 0));
        CHECK.is("no minute, flour 1 missing", 2, b.bakeObstacle(0, 1, 0, -1));
        CHECK.is("flour 1 missing", 3, b.bakeObstacle(0, 1, -2, 0));
        PennyBakery last = Check.bakery("bakery 999 0 1;flour 1;bread 1 1 1;buy 0 24 1;" + "bake 0 1;".repeat(23));
        CHECK.is("a unit is left for the 24th batch", 0, last.bakeObstacle(0, 1, 0, 0));
        CHECK.is("but no second one", 3, last.bakeObstacle(0, 2, 0, 0));
    }

    /** "gaps less than 0 are savings" */
    private static void leastGaps() {
        PennyBakery b = Check.bakery("bakery 9999 20 1;flour 99;bread 1 9 9;buy 0 99 1;buy 0 99 1;rate 0 0;rate 1 0;rate 2 0;");
        b.bake(0, 20, 0, -9, -9);
        gaps(b, -98 * 171, -9 * 99, -20 * 171, -9 * 20, 0);
        CHECK.is("the loss is a saving", 171 - 20 * (891 + 180), b.lossOf(0));
    }

    /** The gaps 0 to 4 with the greatest numbers that the ranges allow. */
    private static void greatestGaps() {
        PennyBakery b = Check.bakery("bakery 99999 0 1;flour 1;bread 1 9 9;buy 0 99 99;buy 0 99 99;rate 0 20;rate 1 20;rate 2 20;rate 3 20;");
        b.bake(0, 20, 20, 9, 9);
        gaps(b, 98 * 189, 9, 20 * 189, 0, 180);
        PennyBakery dear = Check.bakery("bakery 99999 20 1;" + "flour 99;".repeat(6) + "bread 1 9 999999;"
                + "buy 0 99 1;buy 1 99 1;buy 2 99 1;buy 3 99 1;buy 4 99 1;buy 5 99 1;".repeat(2));
        dear.bake(0, 20, 20, 9, 9);
        gaps(dear, -98 * 1089, 891, 0, 180, 20 * 5526);
    }

    private static void gaps(PennyBakery b, int... due) {
        int sum = 0;
        for (int kind = 0; kind < 5; kind++) {
            CHECK.is("gap " + kind, due[kind], b.gapOf(0, kind));
            CHECK.is("sum of the gaps " + kind, due[kind], b.gapSum(kind));
            sum += due[kind];
        }
        CHECK.is("the loss", sum, b.lossOf(0));
        CHECK.is("the total loss", sum, b.totalLoss());
    }

    /** "when loaves are sold, the list price minus the price, for each loaf. This gap belongs to no batch." */
    private static void salesGap() {
        PennyBakery b = Check.bakery("bakery 999 0 1;flour 1;bread 999 1 1;bread 1 1 1;buy 0 99 1;bake 0 20;bake 1 20;");
        CHECK.is("none sold", 0, b.gapSum(PennyBakery.SALES));
        b.sell(0, 1, 999);
        CHECK.is("at the list price", 0, b.gapSum(PennyBakery.SALES));
        b.sell(0, 19, 1);
        CHECK.is("at the least price", 19 * 998, b.gapSum(PennyBakery.SALES));
        b.sell(1, 20, 999);
        CHECK.is("savings", 19 * 998 - 20 * 998, b.gapSum(PennyBakery.SALES));
        CHECK.is("the batches' losses", 0, b.lossOf(0) + b.lossOf(1));
        CHECK.noArgument("no batch has it", () -> b.gapOf(0, PennyBakery.SALES));
    }

    /** "The loss of a batch is its cost minus the standard cost of the bread for each loaf that is not burnt; it is the sum of its gaps." */
    private static void lossIsSumOfGaps() {
        PennyBakery b = Check.bakery("bakery 9999 3 1;flour 7;bread 50 2 3;buy 0 99 9;rate 0 5;");
        for (int burnt = 0; burnt <= 4; burnt += 2) {
            int batch = b.bake(0, 4, burnt, 1 - burnt, burnt - 1);
            int sum = 0;
            for (int kind = PennyBakery.PRICE; kind <= PennyBakery.BURNT; kind++) {
                sum += b.gapOf(batch, kind);
            }
            CHECK.is("loss with " + burnt + " burnt", b.costOf(batch) - (4 - burnt) * 27, b.lossOf(batch));
            CHECK.is("sum with " + burnt + " burnt", sum, b.lossOf(batch));
        }
        CHECK.is("all burnt: the whole cost", b.costOf(2), b.lossOf(2));
        CHECK.is("consistent", 0, b.consistencyError());
    }
}
