/** Promises 42 to 53: predictions and accounts. */
final class PredictionsTest {
    private static final Check CHECK = new Check("PredictionsTest");

    public static void main(String[] args) {
        promise42();
        obstacleInputs();
        promise43();
        promise44();
        promise45();
        promises46To48();
        promises49And50();
        promise51();
        promise52();
        promise53();
        CHECK.end();
    }

    private static void promise42() {
        PennyBakery b = Check.bakery("bakery 9999 2 1;flour 5;flour 5;bread 9 4 12;bread 9 1 9;bread 9 2 10;");
        CHECK.is("no flour at all", 3, b.bakeObstacle(0, 1, 0, 0));
        CHECK.is("no unit needed", 0, b.bakeObstacle(2, 1, -1, 0));
        CHECK.is("too few minutes", 2, b.bakeObstacle(2, 1, 0, -2));
        CHECK.is("one minute", 3, b.bakeObstacle(2, 1, 0, -1));
        CHECK.is("less than no units", 2, b.bakeObstacle(2, 8, -9, 0));
        CHECK.is("no units", 0, b.bakeObstacle(2, 9, -9, 0));
        CHECK.is("one unit", 3, b.bakeObstacle(2, 9, -8, 0));
        b.buy(0, 99, 1);
        b.buy(1, 10, 1);
        CHECK.is("obstacle 2 is told before 3", 2, b.bakeObstacle(0, 1, -3, 0));
        CHECK.is("late is told before 3", 2, b.bakeObstacle(0, 1, 0, -4));
        CHECK.is("too few of another flour", 3, b.bakeObstacle(1, 20, 0, 0));
        PennyBakery two = Check.bakery("bakery 9999 2 1;flour 5;flour 5;bread 9 4 21;buy 0 10 1;buy 1 12 1;");
        CHECK.is("all units", 0, two.bakeObstacle(0, 6, 4, 0));
        CHECK.is("one unit too many of the main flour", 3, two.bakeObstacle(0, 6, 5, 0));
        CHECK.is("too few of flour 1", 3, two.bakeObstacle(0, 7, 0, 0));
        CHECK.is("saved units of flour 0 do not help", 3, two.bakeObstacle(0, 7, -7, 0));
        CHECK.is("least units and obstacle 3 of flour 1", 2, two.bakeObstacle(0, 8, -9, 0));
        String before = Check.stateOf(two);
        two.bakeObstacle(0, 6, 4, 0);
        CHECK.isText("nothing changes", before, Check.stateOf(two));
        CHECK.is("no change", 0, two.undoCount());
        PennyBakery full = Check.bakery("bakery 999 0 1;flour 1;bread 1 1 1;buy 0 99 1;");
        Check.run(full, "bake 0 1;".repeat(23));
        CHECK.is("23 batches", 0, full.bakeObstacle(0, 1, 0, 0));
        Check.run(full, "bake 0 1;");
        CHECK.is("24 batches", 1, full.bakeObstacle(0, 1, 0, 0));
        CHECK.is("it is told first", 1, full.bakeObstacle(0, 1, -9, -9));
        CHECK.noArgument("loaves", () -> full.bakeObstacle(0, 0, 0, 0));
    }

    private static void obstacleInputs() {
        PennyBakery b = new PennyBakery();
        CHECK.is("least", 2, b.bakeObstacle(0, 1, -9, -9));
        CHECK.is("greatest", 3, b.bakeObstacle(0, 20, 9, 9));
        CHECK.noIndex("bread 2", () -> b.bakeObstacle(2, 1, 0, 0));
        CHECK.noIndex("bread -1", () -> b.bakeObstacle(-1, 1, 0, 0));
        CHECK.noIndex("the index first", () -> b.bakeObstacle(2, 99, 99, 99));
        CHECK.noArgument("loaves 0", () -> b.bakeObstacle(0, 0, 0, 0));
        CHECK.noArgument("loaves 21", () -> b.bakeObstacle(0, 21, 0, 0));
        CHECK.noArgument("extra 10", () -> b.bakeObstacle(0, 1, 10, 0));
        CHECK.noArgument("extra -10", () -> b.bakeObstacle(0, 1, -10, 0));
        CHECK.noArgument("late 10", () -> b.bakeObstacle(0, 1, 0, 10));
        CHECK.noArgument("late -10", () -> b.bakeObstacle(0, 1, 0, -10));
    }

    private static void promise43() {
        PennyBakery b = Check.bakery("bakery 9999 3 1;flour 5;flour 7;bread 50 4 12;buy 0 9 6;buy 0 9 4;buy 1 9 8;rate 0 5;");
        CHECK.is("one loaf", 2 * 6 + 8 + 4 * 5 - (2 * 5 + 7 + 4 * 3), b.lossIfBaked(0, 1));
        CHECK.is("nine loaves", 9 * 6 + 9 * 4 + 9 * 8 + 36 * 5 - 9 * 29, b.lossIfBaked(0, 9));
        CHECK.noState("ten loaves", () -> b.lossIfBaked(0, 10));
        CHECK.noArgument("21 loaves", () -> b.lossIfBaked(0, 21));
        CHECK.noArgument("0 loaves", () -> b.lossIfBaked(0, 0));
        CHECK.noIndex("bread 1", () -> b.lossIfBaked(1, 0));
        CHECK.noIndex("bread -1", () -> b.lossIfBaked(-1, 1));
        b.waitMinutes(58);
        int predicted = b.lossIfBaked(0, 3);
        CHECK.is("no change", 1, b.undoCount());
        CHECK.is("it comes true", b.lossOf(b.bake(0, 3, 0, 0, 0)), predicted);
        CHECK.is("the oven is not free before 70", 58 + 12, b.freeAt(0));
        b.setRate(1, 9);
        predicted = b.lossIfBaked(0, 2);
        CHECK.is("it comes true", b.lossOf(b.bake(0, 2, 0, 0, 0)), predicted);
        PennyBakery full = Check.bakery("bakery 999 0 1;flour 1;bread 1 1 1;buy 0 99 1;" + "bake 0 1;".repeat(24));
        CHECK.noState("24 batches", () -> full.lossIfBaked(0, 1));
    }

    private static void promise44() {
        PennyBakery b = Check.bakery("bakery 9999 3 1;flour 5;flour 7;bread 50 4 12;bread 50 1 50;buy 0 9 6;buy 1 9 8;");
        CHECK.is("limited by flour 0", 4, b.possibleLoaves(0));
        CHECK.is("limited by flour 1", 1, b.possibleLoaves(1));
        b.buy(0, 99, 1);
        CHECK.is("limited by flour 1", 9, b.possibleLoaves(0));
        b.buy(1, 99, 1);
        CHECK.is("at most 20", 20, b.possibleLoaves(0));
        b.addFlour(1);
        b.addBread(1, 1, 100);
        CHECK.is("none", 0, b.possibleLoaves(2));
        CHECK.noIndex("bread 3", () -> b.possibleLoaves(3));
        CHECK.noIndex("bread -1", () -> b.possibleLoaves(-1));
        PennyBakery full = Check.bakery("bakery 999 0 1;flour 1;bread 1 1 1;buy 0 99 1;" + "bake 0 1;".repeat(24));
        CHECK.is("24 batches", 0, full.possibleLoaves(0));
    }

    private static void promise45() {
        PennyBakery b = Check.bakery("bakery 9999 5 2;flour 5;bread 50 4 1;buy 0 99 1;");
        CHECK.is("all cost the same", 0, b.bestWait(0, 1));
        b.setRate(0, 4);
        CHECK.is("now is cheapest", 0, b.bestWait(0, 1));
        b.setRate(23, 0);
        CHECK.is("the last hour", 23, b.bestWait(0, 1));
        b.setRate(7, 0);
        CHECK.is("the first of the cheapest", 7, b.bestWait(0, 15));
        CHECK.is("two hours", 23, b.bestWait(0, 20));
        b.waitMinutes(30);
        CHECK.is("half an hour before the free one", 6, b.bestWait(0, 20));
        b.bake(0, 20, 0, 0, 9);
        CHECK.is("the other oven is free", 6, b.bestWait(0, 20));
        b.bake(0, 20, 0, 0, 9);
        CHECK.is("an oven that is not free yet", 119, b.freeAt(0));
        CHECK.is("waits as well", 6, b.bestWait(0, 20));
        b.setRate(2, 1);
        b.setRate(1, 1);
        b.setRate(7, 5);
        b.setRate(23, 5);
        CHECK.is("waiting for the oven costs no wait", 0, b.bestWait(0, 15));
        CHECK.is("no flour is needed", 0, Check.load(b, "bakery 0 5 1;flour 1;bread 1 9 9;rate 3 4;"));
        CHECK.is("without flour", 3, b.bestWait(0, 3));
        CHECK.noIndex("bread 1", () -> b.bestWait(1, 1));
        CHECK.noIndex("bread -1", () -> b.bestWait(-1, 0));
        CHECK.noArgument("loaves 0", () -> b.bestWait(0, 0));
        CHECK.noArgument("loaves 21", () -> b.bestWait(0, 21));
        CHECK.is("24 batches", 24, Check.load(b, "bakery 999 3 1;flour 1;bread 1 1 1;buy 0 99 1;rate 9 0;" + "bake 0 1;".repeat(24)));
        CHECK.is("with 24 batches", 9, b.bestWait(0, 1));
        PennyBakery busy = Check.bakery("bakery 99 5 1;flour 1;bread 1 6 1;buy 0 20 1;bake 0 9 late 5;rate 0 0;");
        CHECK.is("free in the last cheap minute", 59, busy.freeAt(0));
        CHECK.is("24 hours are too long", 0, busy.bestWait(0, 10));
        CHECK.is("the last hour", 23, busy.bestWait(0, 20));
        PennyBakery late = Check.bakery("bakery 99 2 1;flour 1;bread 1 1 1;rate 0 3;rate 1 1;");
        Check.run(late, "wait 999;wait 381;");
        CHECK.is("the hour before midnight", 1380, late.clock());
        CHECK.is("two hours on", 2, late.bestWait(0, 1));
    }

    private static void promises46To48() {
        PennyBakery b = Check.bakery("bakery 9999 3 1;flour 5;bread 50 4 1;bread 70 1 1;buy 0 9 6;rate 0 2;");
        CHECK.is("flour", 54, b.spentOnFlour());
        b.buy(0, 90, 7);
        CHECK.is("flour", 54 + 630, b.spentOnFlour());
        CHECK.is("ovens", 0, b.spentOnOvens());
        b.bake(0, 10, 0, 0, 5);
        CHECK.is("ovens", 90, b.spentOnOvens());
        b.bake(1, 10, 0, 0, 9);
        CHECK.is("ovens", 90 + 15 * 2 + 4 * 3, b.spentOnOvens());
        CHECK.is("income", 0, b.income());
        b.sell(0, 3, 49);
        b.sell(1, 2, 999);
        CHECK.is("income", 147 + 1998, b.income());
        CHECK.is("cash", 9999 - 684 - 132 + 2145, b.cash());
        CHECK.is("flour that was used was bought", 684, b.spentOnFlour());
    }

    private static void promises49And50() {
        PennyBakery b = Check.bakery("bakery 9999 3 1;flour 5;flour 9;bread 50 4 1;bread 70 1 20;");
        CHECK.is("no flour", 0, b.flourValue());
        CHECK.is("no loaves", 0, b.loafValue());
        Check.run(b, "buy 0 9 6;buy 1 3 8;buy 0 4 7;buy 1 9 10;");
        CHECK.is("flour", 54 + 24 + 28 + 90, b.flourValue());
        b.bake(0, 10, 1, 0, 0);
        CHECK.is("flour that is left", 21 + 24 + 90, b.flourValue());
        CHECK.is("loaves", 9 * 17, b.loafValue());
        b.bake(1, 2, 0, 0, 0);
        CHECK.is("flour that is left", 21 + 80, b.flourValue());
        CHECK.is("loaves", 9 * 17 + 2 * 21, b.loafValue());
        b.sell(0, 9, 1);
        CHECK.is("loaves that are left", 2 * 21, b.loafValue());
    }

    private static void promise51() {
        PennyBakery b = new PennyBakery();
        CHECK.is("at first", 0, b.consistencyError());
        Check.run(b, "bake 1 2 less 3 early 9;setup");
        Check.run(b, "bake 1 2 less 3 early 9;rate 0 20;sell 1 5 999;bake 0 2 burnt 2 late 9;");
        CHECK.is("after a script", 0, b.consistencyError());
        b.save(1);
        b.sell(0, 1, 1);
        b.addFlour(99);
        b.buy(2, 50, 1);
        CHECK.is("after changes", 0, b.consistencyError());
        b.undo();
        b.undo();
        CHECK.is("after undo", 0, b.consistencyError());
        Check.load(b, "bakery 77 20 3;flour 2;bread 1 1 1;buy 0 30 2;bake 0 20 burnt 20;bake 0 9;sell 0 9 999;");
        CHECK.is("after a setup", 0, b.consistencyError());
        Check.load(b, "bakery 99 20 3;");
        CHECK.is("without anything", 0, b.consistencyError());
    }

    private static void promise52() {
        PennyBakery b = Check.bakery("bakery 999 0 1;flour 7;bread 9 1 1;buy 0 99 7;");
        CHECK.isReal("without batches", 0.0, b.meanLoss());
        b.bake(0, 3, 0, 1, 0);
        CHECK.isReal("one", 7.0, b.meanLoss());
        b.bake(0, 3, 0, 0, 0);
        CHECK.isReal("two", 3.5, b.meanLoss());
        b.bake(0, 3, 0, 1, 0);
        CHECK.isReal("three", 14.0 / 3.0, b.meanLoss());
        b.sell(0, 9, 1);
        CHECK.isReal("sales do not count", 14.0 / 3.0, b.meanLoss());
        b.bake(0, 9, 0, -9, 0);
        CHECK.isReal("savings", -49.0 / 4.0, b.meanLoss());
    }

    private static void promise53() {
        PennyBakery b = Check.bakery("bakery 999 0 1;flour 7;bread 9 1 1;buy 0 99 7;");
        CHECK.isReal("without batches", 0.0f, b.burntShare());
        b.bake(0, 3, 0, 0, 0);
        CHECK.isReal("none", 0.0f, b.burntShare());
        b.bake(0, 4, 2, 0, 0);
        CHECK.isReal("two of seven", 2.0f / 7.0f, b.burntShare());
        b.bake(0, 20, 20, 0, 0);
        CHECK.isReal("22 of 27", 22.0f / 27.0f, b.burntShare());
        Check.load(b, "bakery 999 0 1;flour 7;bread 9 1 1;buy 0 99 7;bake 0 5 burnt 5;");
        CHECK.isReal("all", 1.0f, b.burntShare());
    }
}
