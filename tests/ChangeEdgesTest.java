import java.util.NoSuchElementException;

/**
 * The boundary cases of "Changes and undo" and of promises 54 to 65. Above each test stands its sentence;
 * what refused calls throw, and that they change nothing, is told by RefusalTest.
 */
final class ChangeEdgesTest {
    private static final Check CHECK = new Check("ChangeEdgesTest");
    private static final String ONE = "flour 1;bread 1 1 1;";

    /** A call on a bakery. */
    private interface Call {
        void on(PennyBakery b);
    }

    public static void main(String[] args) {
        whatIsAChange();
        whatIsNoChange();
        changesThatAlterNothing();
        latestEight();
        latestFirst();
        changesAfterUndo();
        undoOfEachChange();
        notPartOfTheState();
        addFlour();
        addBread();
        buy();
        buyWithAllTheCash();
        setRate();
        bake();
        paidAtOnce();
        sell();
        waitMinutes();
        slots();
        savedAgain();
        restoreLeavesNoChange();
        savedStatesAreCopies();
        mainFlourComesBack();
        longestOutput();
        leftOutOfTheOutput();
        outputIsReplaced();
        outputBytes();
        manyCalls();
        CHECK.end();
    }

    /** "A change is a call of runScript() whose text has no error, or a call of a method in the section "changes" that throws no exception" */
    private static void whatIsAChange() {
        change("addFlour", b -> b.addFlour(1));
        change("addBread", b -> b.addBread(1, 1, 1));
        change("buy", b -> b.buy(0, 1, 1));
        change("setRate", b -> b.setRate(0, 1));
        change("bake", b -> b.bake(0, 1, 0, 0, 0));
        change("sell", b -> b.sell(0, 1, 1));
        change("waitMinutes", b -> b.waitMinutes(1));
        change("runScript", b -> Check.run(b, "wait 1;"));
    }

    private static void change(String name, Call call) {
        PennyBakery b = new PennyBakery();
        String before = Check.stateOf(b);
        call.on(b);
        CHECK.is(name + " is a change", 1, b.undoCount());
        call.on(b);
        CHECK.is(name + " twice", 2, b.undoCount());
        CHECK.is(name + " undone", 1, b.undo());
        CHECK.is(name + " undone twice", 0, b.undo());
        CHECK.isText(name + " changed nothing else", before, Check.stateOf(b));
        CHECK.noState("no more", b::undo);
    }

    /** All other calls, and texts with errors, are no changes: "This is not a change." of save, among them. */
    private static void whatIsNoChange() {
        PennyBakery b = new PennyBakery();
        b.waitMinutes(1);
        Check.stateOf(b);
        b.save(0);
        b.save(1);
        b.writeBatch(0);
        b.outputByte(0);
        b.bakeObstacle(0, 1, 0, 0);
        b.lossIfBaked(0, 1);
        Check.feed(b, "wait 1;");
        CHECK.is("none of these", 1, b.undoCount());
        Check.run(b, "wait 0;");
        CHECK.is("nor a script with an error", 1, b.undoCount());
        Check.load(b, "bakery");
        CHECK.is("nor a setup with an error", 1, b.undoCount());
        b.undo();
        CHECK.is("nor undo", 0, b.undoCount());
        b.restore(0);
        CHECK.is("nor restore", 0, b.undoCount());
        CHECK.is("nor a setup", 0, Check.load(b, "bakery 1 1 1;wait 5;"));
        CHECK.is("of which no command can be undone", 0, b.undoCount());
        CHECK.noState("undo", b::undo);
        CHECK.is("clock", 5, b.clock());
    }

    /** "even if it alters nothing" */
    private static void changesThatAlterNothing() {
        PennyBakery b = new PennyBakery();
        String before = Check.stateOf(new PennyBakery());
        CHECK.is("the rate that it is already", 4, b.setRate(1, 4));
        CHECK.is("a change", 1, b.undoCount());
        CHECK.is("a script without commands", 0, b.runScript());
        CHECK.is("a change", 2, b.undoCount());
        CHECK.is("a script of blanks", 0, Check.run(b, " \n "));
        CHECK.is("a change", 3, b.undoCount());
        CHECK.is("a script that sets the rate that it is already", 1, Check.run(b, "rate 1 4;"));
        CHECK.is("a change", 4, b.undoCount());
        CHECK.isText("nothing is altered", before, Check.stateOf(b));
        for (int left = 3; left >= 0; left--) {
            CHECK.is("undone", left, b.undo());
        }
        CHECK.isText("nothing is altered", before, Check.stateOf(b));
        PennyBakery other = new PennyBakery();
        other.waitMinutes(9);
        for (int i = 0; i < 8; i++) {
            other.setRate(1, 4);
        }
        for (int i = 0; i < 8; i++) {
            other.undo();
        }
        CHECK.is("they count among the latest 8", 59, other.clock());
        CHECK.noState("the 9th", other::undo);
    }

    /** "The latest 8 changes can be undone" */
    private static void latestEight() {
        for (int changes = 0; changes <= 26; changes++) {
            PennyBakery b = new PennyBakery();
            for (int i = 0; i < changes; i++) {
                b.waitMinutes(1 + i);
            }
            int kept = Math.min(changes, 8);
            CHECK.is("can be undone of " + changes, kept, b.undoCount());
            for (int left = kept - 1; left >= 0; left--) {
                CHECK.is("left", left, b.undo());
                int waited = changes - kept + left;
                CHECK.is("clock", 50 + waited * (waited + 1) / 2, b.clock());
            }
            CHECK.noState("no more", b::undo);
            CHECK.is("the clock stays", 50 + (changes - kept) * (changes - kept + 1) / 2, b.clock());
        }
    }

    /** "the latest one first" */
    private static void latestFirst() {
        PennyBakery b = new PennyBakery();
        b.addFlour(7);
        b.setRate(7, 7);
        b.waitMinutes(7);
        b.undo();
        CHECK.is("first the waiting", 50, b.clock());
        CHECK.is("the rate is set", 7, b.rateAt(7));
        b.undo();
        CHECK.is("then the rate", 2, b.rateAt(7));
        CHECK.is("the flour is there", 3, b.flourCount());
        b.undo();
        CHECK.is("then the flour", 2, b.flourCount());
    }

    /** undo: "Undoes the latest change that was not undone." */
    private static void changesAfterUndo() {
        for (int undone = 1; undone <= 8; undone++) {
            PennyBakery b = new PennyBakery();
            for (int i = 0; i < 11; i++) {
                b.waitMinutes(1);
            }
            for (int i = 0; i < undone; i++) {
                b.undo();
            }
            CHECK.is("clock", 61 - undone, b.clock());
            b.waitMinutes(100);
            CHECK.is("one more than were left", 9 - undone, b.undoCount());
            CHECK.is("undone", 8 - undone, b.undo());
            CHECK.is("the new one", 61 - undone, b.clock());
            for (int i = 0; i < undone + 3; i++) {
                b.waitMinutes(200);
            }
            CHECK.is("full again", 8, b.undoCount());
            for (int i = 0; i < 8; i++) {
                b.undo();
            }
            // There were 11 - undone old changes and undone + 3 new ones; all but the latest 8 of these 14 stay.
            int old = Math.min(11 - undone, 6);
            CHECK.is("all but the latest eight stay", 50 + old + 200 * (6 - old), b.clock());
        }
    }

    /** "Undoes the latest change" of each kind, as the last, the only and the oldest one that can be undone. */
    private static void undoOfEachChange() {
        Call[] calls = {b -> b.addFlour(1), b -> b.addBread(1, 1, 1), b -> b.buy(0, 1, 1), b -> b.setRate(0, 1),
            b -> b.bake(0, 1, 1, 1, 1), b -> b.sell(0, 1, 1), b -> b.waitMinutes(1), b -> Check.run(b, "flour 1;wait 9;")};
        for (int first = 0; first < calls.length; first++) {
            for (int left = 0; left < 8; left++) {
                PennyBakery b = changed(calls, first, 8);
                CHECK.is("eight changes", 8, b.undoCount());
                for (int undone = 8; undone > left; undone--) {
                    b.undo();
                }
                String due = Check.stateOf(changed(calls, first, left));
                CHECK.isText("undone " + (first + left) % 8, due, Check.stateOf(b));
            }
        }
    }

    /** A new bakery after some of the calls, which follow one another in a ring. */
    private static PennyBakery changed(Call[] calls, int first, int count) {
        PennyBakery b = new PennyBakery();
        for (int i = 0; i < count; i++) {
            calls[(first + i) % calls.length].on(b);
        }
        return b;
    }

    /** "everything except the two buffers, the reported error, the saved states and the list of changes" */
    private static void notPartOfTheState() {
        PennyBakery b = new PennyBakery();
        b.save(0);
        b.waitMinutes(1);
        Check.run(b, "wait 0;");
        b.writeBatch(1);
        b.save(1);
        b.undo();
        CHECK.is("undo leaves the error", 2, b.errorCode());
        CHECK.is("and its position", 5, b.errorPosition());
        CHECK.isText("and the output", "p36 r26 t6", Check.output(b));
        CHECK.is("the input", 7, Check.feed(b, "wait 9;"));
        b.waitMinutes(2);
        b.undo();
        CHECK.is("and the input", 7, b.feed(0, 0, 0, 0, 0));
        b.waitMinutes(3);
        b.restore(1);
        CHECK.is("a state that was saved after the change", 51, b.clock());
        CHECK.is("restore leaves the error", 2, b.errorCode());
        CHECK.is("and its position", 5, b.errorPosition());
        CHECK.isText("and the output", "p36 r26 t6", Check.output(b));
        CHECK.is("and the input", 1, b.runScript());
        CHECK.is("clock", 60, b.clock());
        b.restore(0);
        CHECK.is("and the other slot", 50, b.clock());
        CHECK.is("a good script is the latest call now", 0, b.errorCode());
    }

    /** addFlour: "1 to 99", "Adds a flour without stock." */
    private static void addFlour() {
        PennyBakery b = Check.bakery("bakery 9999 0 1;");
        CHECK.is("least", 0, b.addFlour(1));
        CHECK.is("greatest", 1, b.addFlour(99));
        CHECK.is("least", 1, b.flourPrice(0));
        CHECK.is("greatest", 99, b.flourPrice(1));
        for (int lot = 0; lot < 12; lot++) {
            b.buy(1, 9, 9);
        }
        b.save(0);
        b.addFlour(5);
        b.buy(2, 9, 9);
        b.addBread(1, 1, 100);
        b.bake(0, 2, 0, 3, 0);
        b.restore(0);
        CHECK.is("in the place of one that is gone", 2, b.addFlour(6));
        CHECK.is("without units", 0, b.unitsOf(2));
        CHECK.is("without lots", 0, b.lotsOf(2));
        CHECK.is("without gaps", 0, b.priceGap(2) + b.useGap(2));
        CHECK.is("cash stays", 9999 - 12 * 81, b.cash());
        for (int flour = 3; flour < 6; flour++) {
            CHECK.is("up to the 6th", flour, b.addFlour(1));
        }
        CHECK.noState("the 7th", () -> b.addFlour(1));
    }

    /** addBread: "1 to 999", "1 to 9", "1 to 999999" */
    private static void addBread() {
        PennyBakery b = Check.bakery("bakery 999 1 1;" + "flour 9;".repeat(6));
        CHECK.is("least", 0, b.addBread(1, 1, 1));
        CHECK.is("greatest", 1, b.addBread(999, 9, 999999));
        CHECK.is("least price", 1, b.listPrice(0));
        CHECK.is("greatest price", 999, b.listPrice(1));
        CHECK.is("least minutes", 1, b.minutesOf(0));
        CHECK.is("greatest minutes", 9, b.minutesOf(1));
        CHECK.is("no loaves", 0, b.loavesOf(0) + b.loavesOf(1));
        b.save(0);
        b.addBread(5, 5, 9);
        b.bake(2, 1, 0, -9, 0);
        b.sell(2, 1, 5);
        b.bake(2, 1, 0, -9, 0);
        b.restore(0);
        CHECK.is("in the place of one that is gone", 2, b.addBread(6, 6, 100000));
        CHECK.is("without loaves", 0, b.loavesOf(2));
        CHECK.is("without its amounts", 0, b.amountOf(2, 0));
        CHECK.is("with its own ones", 1, b.amountOf(2, 5));
        CHECK.is("consistent", 0, b.consistencyError());
        for (int bread = 3; bread < 6; bread++) {
            CHECK.is("up to the 6th", bread, b.addBread(1, 1, 1));
        }
        CHECK.noState("the 7th", () -> b.addBread(1, 1, 1));
    }

    /** buy: "1 to 99", "the cash afterwards" */
    private static void buy() {
        PennyBakery b = Check.bakery("bakery 99999 0 1;flour 1;flour 1;");
        CHECK.is("least", 99998, b.buy(0, 1, 1));
        CHECK.is("greatest", 99998 - 9801, b.buy(1, 99, 99));
        CHECK.is("cash", 90197, b.cash());
        CHECK.is("one lot each", 2, b.lotsOf(0) + b.lotsOf(1));
        CHECK.is("spent", 9802, b.spentOnFlour());
    }

    /** buy: "if the cash is less than the lot costs, or if the flour has 12 lots" */
    private static void buyWithAllTheCash() {
        for (int cash = 0; cash <= 13; cash++) {
            PennyBakery b = Check.bakery("bakery " + cash + " 0 1;flour 1;");
            if (cash < 12) {
                CHECK.noState("12 pence of " + cash, () -> b.buy(0, 4, 3));
                CHECK.is("no lot", 0, b.lotsOf(0));
                CHECK.is("no change", 0, b.undoCount());
            } else {
                CHECK.is("12 pence of " + cash, cash - 12, b.buy(0, 4, 3));
            }
        }
        PennyBakery debt = Check.bakery("bakery 0 1 1;" + ONE);
        CHECK.noState("no cash", () -> debt.buy(0, 1, 1));
        debt.bake(0, 1, 0, -1, 0);
        CHECK.noState("less than no cash", () -> debt.buy(0, 1, 1));
        CHECK.is("one penny", 1, debt.sell(0, 1, 2));
        CHECK.is("is enough", 0, debt.buy(0, 1, 1));
        PennyBakery lots = Check.bakery("bakery 99 0 1;" + ONE + "buy 0 1 1;".repeat(11));
        CHECK.is("the 12th lot", 87, lots.buy(0, 1, 1));
        CHECK.noState("the 13th lot", () -> lots.buy(0, 1, 1));
        CHECK.noState("the 13th lot, too dear", () -> lots.buy(0, 99, 99));
        lots.bake(0, 1, 0, 0, 0);
        CHECK.is("a lot has vanished", 86, lots.buy(0, 1, 1));
    }

    /** setRate: "0 to 23", "0 to 20", "the previous rate", "Batches that were baked do not change." */
    private static void setRate() {
        PennyBakery b = Check.bakery("bakery 9999 3 1;" + ONE + "buy 0 9 1;bake 0 9 late 1;");
        String batch = b.costOf(0) + " " + b.lossOf(0) + " " + b.gapOf(0, 2) + " " + b.spentOnOvens() + " " + b.cash();
        for (int hour = 0; hour < 24; hour++) {
            CHECK.is("at first", 3, b.setRate(hour, 20));
            CHECK.is("then", 20, b.setRate(hour, 0));
            CHECK.is("then", 0, b.setRate(hour, 0));
            CHECK.is("rate", 0, b.rateAt(hour));
        }
        CHECK.isText("the batch stays", batch,
                b.costOf(0) + " " + b.lossOf(0) + " " + b.gapOf(0, 2) + " " + b.spentOnOvens() + " " + b.cash());
        CHECK.is("the standard rate stays", 3, b.standardRate());
        CHECK.is("the standard cost stays", 4, b.standardCost(0));
    }

    /** bake: "0 to loaves", "the number of the batch" */
    private static void bake() {
        PennyBakery b = Check.bakery("bakery 999 0 1;flour 1;bread 1 1 1;buy 0 99 1;buy 0 99 1;");
        for (int loaves = 1; loaves <= 20; loaves++) {
            int planned = loaves;
            CHECK.noArgument("burnt " + (planned + 1), () -> b.bake(0, planned, planned + 1, 0, 0));
            CHECK.noArgument("burnt -1", () -> b.bake(0, planned, -1, 0, 0));
            CHECK.is("all burnt", 0, b.bake(0, loaves, loaves, 0, 0));
            CHECK.is("no good loaf", 0, b.goodLoaves(0) + b.loavesOf(0));
            CHECK.is("none burnt", 1, b.bake(0, loaves, 0, 0, 0));
            CHECK.is("all good", loaves, b.goodLoaves(1));
            CHECK.is("in the shop", loaves, b.loavesOf(0));
            b.undo();
            b.undo();
        }
        for (int extra = -9; extra <= 9; extra++) {
            b.bake(0, 10, 0, extra, extra);
            CHECK.is("units", 188 - extra, b.unitsOf(0));
            CHECK.is("minutes", 10 + extra, b.ovenMinutes(0));
            b.undo();
        }
    }

    /** bake: "what its minutes cost is paid at once" */
    private static void paidAtOnce() {
        PennyBakery b = Check.bakery("bakery 10 5 1;" + ONE + "buy 0 9 1;");
        b.bake(0, 1, 0, 0, 0);
        CHECK.is("paid, more than there is", -4, b.cash());
        b.setRate(0, 0);
        b.bake(0, 1, 0, 0, 0);
        CHECK.is("a free minute", -4, b.cash());
        b.waitMinutes(100);
        CHECK.is("waiting costs nothing", -4, b.cash());
        CHECK.is("units cost nothing more", 5, b.spentOnOvens());
    }

    /** sell: "1 to 99", "1 to 999", "the cash afterwards", "if there are fewer loaves in the shop" */
    private static void sell() {
        String setup = "bakery 999 0 1;flour 1;bread 5 1 1;bread 5 1 1;buy 0 99 1;buy 0 99 1;";
        PennyBakery b = Check.bakery(setup + "bake 0 20;".repeat(5) + "bake 1 3;");
        int cash = b.cash();
        CHECK.is("least", cash + 1, b.sell(0, 1, 1));
        CHECK.is("greatest, all that there are", cash + 1 + 98901, b.sell(0, 99, 999));
        CHECK.is("none left", 0, b.loavesOf(0));
        CHECK.noState("no loaf", () -> b.sell(0, 1, 1));
        CHECK.noState("4 of 3", () -> b.sell(1, 4, 1));
        CHECK.is("3 of 3", cash + 1 + 98901 + 3, b.sell(1, 3, 1));
        b.undo();
        CHECK.is("2 of 3", cash + 1 + 98901 + 2, b.sell(1, 2, 1));
        CHECK.noState("2 of 1", () -> b.sell(1, 2, 1));
        CHECK.is("1 of 1", cash + 1 + 98901 + 3, b.sell(1, 1, 1));
        PennyBakery many = Check.bakery(setup + "bake 0 20;".repeat(5));
        CHECK.noArgument("100 loaves, though there are 100", () -> many.sell(0, 100, 1));
    }

    /** waitMinutes: "1 to 999", "the clock afterwards" */
    private static void waitMinutes() {
        PennyBakery b = Check.bakery("bakery 0 0 1;");
        CHECK.is("least", 1, b.waitMinutes(1));
        CHECK.is("greatest", 1000, b.waitMinutes(999));
        CHECK.noArgument("0", () -> b.waitMinutes(0));
        CHECK.noArgument("1000", () -> b.waitMinutes(1000));
        CHECK.is("the clock", 1000, b.clock());
        CHECK.is("the ovens", 0, b.freeAt(0));
    }

    /** save, restore: "0 or 1", "if no state is saved there" */
    private static void slots() {
        for (int slot = 0; slot < 2; slot++) {
            int used = slot;
            int other = 1 - slot;
            PennyBakery b = new PennyBakery();
            CHECK.fails("nothing saved", NoSuchElementException.class, () -> b.restore(used));
            CHECK.is("saved", 1042, b.save(used));
            CHECK.fails("nothing saved in the other one", NoSuchElementException.class, () -> b.restore(other));
            CHECK.is("restored", 1042, b.restore(used));
            for (int wrong : new int[] {Integer.MIN_VALUE, -1, 2, 3, Integer.MAX_VALUE}) {
                CHECK.noArgument("save " + wrong, () -> b.save(wrong));
                CHECK.noArgument("restore " + wrong, () -> b.restore(wrong));
            }
        }
        PennyBakery poor = Check.bakery("bakery 0 1 1;" + ONE + "bake 0 1 less 1;");
        CHECK.is("cash less than 0", -1, poor.save(0));
        poor.sell(0, 1, 9);
        CHECK.is("cash less than 0", -1, poor.restore(0));
    }

    /** save: "A state that was saved there before is replaced." restore: "it stays saved" */
    private static void savedAgain() {
        PennyBakery b = new PennyBakery();
        b.save(0);
        b.save(1);
        for (int i = 1; i <= 5; i++) {
            b.waitMinutes(1);
            b.save(0);
        }
        b.waitMinutes(900);
        for (int i = 0; i < 3; i++) {
            b.restore(0);
            CHECK.is("the latest one, again and again", 55, b.clock());
            b.waitMinutes(7);
            b.restore(1);
            CHECK.is("the other slot's", 50, b.clock());
            b.setRate(0, i);
        }
    }

    /** restore: "Afterwards there is no change to undo." */
    private static void restoreLeavesNoChange() {
        PennyBakery b = new PennyBakery();
        b.save(0);
        for (int i = 0; i < 12; i++) {
            b.waitMinutes(1);
        }
        CHECK.is("eight", 8, b.undoCount());
        b.restore(0);
        CHECK.is("none", 0, b.undoCount());
        CHECK.noState("undo", b::undo);
        CHECK.is("clock", 50, b.clock());
        b.waitMinutes(3);
        b.waitMinutes(4);
        CHECK.is("two", 2, b.undoCount());
        CHECK.is("undone", 1, b.undo());
        CHECK.is("undone", 0, b.undo());
        CHECK.is("clock", 50, b.clock());
        CHECK.noState("undo", b::undo);
    }

    /** A saved state does not change with the bakery, nor the bakery with a saved state. */
    private static void savedStatesAreCopies() {
        String setup = "bakery 9999 3 2;flour 5;flour 6;bread 9 2 12;bread 9 1 1;buy 0 50 6;buy 1 50 5;bake 0 3 burnt 1 late 1;sell 0 1 8;";
        String script = "flour 9;bread 8 8 111;buy 2 9 9;buy 0 1 1;buy 1 1 1;rate 0 9;rate 23 1;bake 0 2 burnt 2 more 2;bake 1 4;bake 2 3;"
                + "sell 0 1 1;sell 1 1 9;wait 99;";
        Call toTheFirst = b -> b.restore(0);
        Call scriptAgain = b -> Check.run(b, script);
        Call toTheSecond = b -> {
            Check.run(b, "wait 5;bake 1 1;");
            b.restore(1);
        };
        Call changeAndUndo = b -> {
            b.waitMinutes(5);
            b.undo();
        };
        Call[] steps = {toTheFirst, scriptAgain, toTheSecond, changeAndUndo};
        String before = Check.stateOf(Check.bakery(setup));
        PennyBakery ready = Check.bakery(setup);
        CHECK.is("a script", 13, Check.run(ready, script));
        String after = Check.stateOf(ready);
        for (int last = 0; last < 2 * steps.length; last++) {
            PennyBakery b = Check.bakery(setup);
            b.save(0);
            Check.run(b, script);
            b.save(1);
            for (int step = 0; step <= last; step++) {
                steps[step % steps.length].on(b);
            }
            CHECK.isText("after step " + last, last % steps.length == 0 ? before : after, Check.stateOf(b));
        }
    }

    /** The main flour of a bread comes back with it. */
    private static void mainFlourComesBack() {
        PennyBakery b = Check.bakery("bakery 999 0 1;flour 1;flour 1;buy 0 50 1;buy 1 50 1;");
        b.addBread(1, 1, 20);
        b.save(0);
        b.undo();
        b.addBread(1, 1, 11);
        b.save(1);
        b.restore(0);
        b.bake(0, 1, 0, 1, 0);
        CHECK.is("flour 1", 1, b.useGap(1));
        CHECK.is("not flour 0", 0, b.useGap(0));
        b.restore(1);
        b.bake(0, 1, 0, 1, 0);
        CHECK.is("flour 0", 1, b.useGap(0));
        CHECK.is("not flour 1", 0, b.useGap(1));
    }

    /** writeBatch: "the gap in decimal digits, with a minus sign .. if it is less than 0, with one space .. between two of them" */
    private static void longestOutput() {
        PennyBakery b = Check.bakery("bakery 99999 20 1;" + "flour 99;".repeat(6) + "bread 1 9 999999;"
                + "buy 0 99 1;buy 1 99 1;buy 2 99 1;buy 3 99 1;buy 4 99 1;buy 5 99 1;".repeat(2) + "rate 0 0;rate 1 0;rate 2 0;");
        b.bake(0, 20, 20, -9, -9);
        String due = "p-104958 u-891 r-3420 t-180 b110520";
        CHECK.is("its length", due.length(), b.writeBatch(0));
        CHECK.isText("all five gaps", due, Check.output(b));
        PennyBakery small = Check.bakery("bakery 99 1 1;flour 1;bread 1 1 1;buy 0 1 2;buy 0 9 1;");
        small.bake(0, 2, 0, -1, 0);
        CHECK.is("two gaps of one digit", 6, small.writeBatch(0));
        CHECK.isText("a minus sign before the digits", "p1 u-1", Check.output(small));
    }

    /** writeBatch: "for each kind from PRICE to BURNT whose gap is not 0" */
    private static void leftOutOfTheOutput() {
        for (int parts = 0; parts < 32; parts++) {
            PennyBakery some = Check.bakery("bakery 999 1 1;flour 2;bread 9 2 1;buy 0 50 " + ((parts & 1) != 0 ? 3 : 2) + ";");
            int extra = (parts & 2) != 0 ? 1 : 0;
            int late = (parts & 8) != 0 ? -1 : 0;
            some.setRate(0, (parts & 4) != 0 ? 0 : 1);
            some.bake(0, 5, (parts & 16) != 0 ? 1 : 0, extra, late);
            StringBuilder due = new StringBuilder();
            add(due, 'p', (parts & 1) != 0 ? 5 + extra : 0);
            add(due, 'u', 2 * extra);
            add(due, 'r', (parts & 4) != 0 ? -10 - late : 0);
            add(due, 't', late);
            add(due, 'b', (parts & 16) != 0 ? 4 : 0);
            CHECK.is("length of " + due, due.length(), some.writeBatch(0));
            CHECK.isText("parts " + parts, due.toString(), Check.output(some));
        }
        CHECK.noIndex("no batch", () -> Scene.empty().writeBatch(0));
    }

    private static void add(StringBuilder text, char letter, int gap) {
        if (gap != 0) {
            text.append(text.length() > 0 ? " " : "").append(letter).append(gap);
        }
    }

    /** writeBatch: "to the output buffer and replaces its content" */
    private static void outputIsReplaced() {
        PennyBakery b = new PennyBakery();
        b.writeBatch(0);
        b.writeBatch(0);
        CHECK.isText("not appended", "p26 u20 b46", Check.output(b));
        b.writeBatch(1);
        CHECK.isText("a shorter one", "p36 r26 t6", Check.output(b));
        CHECK.is("its end", -1, b.outputByte(10));
        b.waitMinutes(1);
        b.bake(0, 1, 0, -4, 0);
        CHECK.is("use alone", 4, b.writeBatch(2));
        CHECK.isText("an even shorter one", "u-40", Check.output(b));
        b.undo();
        CHECK.isText("though the batch is gone", "u-40", Check.output(b));
        CHECK.noIndex("no batch", () -> b.writeBatch(2));
        CHECK.isText("it stays", "u-40", Check.output(b));
        PennyBakery plain = Check.bakery("bakery 999 1 1;flour 2;bread 9 2 1;buy 0 50 2;bake 0 1;bake 0 1 burnt 1;");
        CHECK.is("a gap", 2, plain.writeBatch(1));
        CHECK.is("none", 0, plain.writeBatch(0));
        CHECK.is("empty again", -1, plain.outputByte(0));
    }

    /** outputByte: "NONE if index is negative or not less than the length" */
    private static void outputBytes() {
        PennyBakery b = new PennyBakery();
        for (int index : new int[] {Integer.MIN_VALUE, -1, 0, 1, Integer.MAX_VALUE}) {
            CHECK.is("empty " + index, -1, b.outputByte(index));
        }
        int length = b.writeBatch(0);
        for (int index = -2; index <= length + 2; index++) {
            int due = index < 0 || index >= length ? -1 : "p26 u20 b46".charAt(index);
            CHECK.is("byte " + index, due, b.outputByte(index));
        }
        CHECK.is("far", -1, b.outputByte(Integer.MAX_VALUE));
        CHECK.is("far", -1, b.outputByte(Integer.MIN_VALUE));
    }

    /** "An object is used for at most 512 calls after it has been made" */
    private static void manyCalls() {
        PennyBakery b = new PennyBakery();
        for (int calls = 0; calls < 510; calls += 3) {
            b.waitMinutes(999);
            b.bake(0, 1, 0, -4, 0);
            b.undo();
        }
        CHECK.is("the 511th call", 50 + 170 * 999, b.clock());
        CHECK.is("the 512th call", 7, b.undoCount());
    }
}
