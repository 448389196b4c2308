/** Promises 2 to 6: feeding, setups, scripts and their errors. */
final class TextsTest {
    private static final Check CHECK = new Check("TextsTest");
    private static final String STOCKED = "bakery 9999 2 1;flour 10;bread 100 3 4;buy 0 99 10;";

    public static void main(String[] args) {
        promise2();
        promise3();
        promise4();
        promises5And6();
        syntaxErrors();
        rangeErrors();
        recipeAndIndexErrors();
        stateErrors();
        limitErrors();
        extras();
        CHECK.end();
    }

    private static void promise2() {
        PennyBakery b = new PennyBakery();
        CHECK.is("all bytes 0", 0, b.feed(0, 0, 0, 0, 0));
        CHECK.is("four bytes", 4, b.feed(0x77616974, 0, 0, 0, 0));
        CHECK.is("bytes 0 are skipped", 7, b.feed(0x20, 0x31000000, 0, 0, 0x00003b00));
        CHECK.is("the order of bytes", 1, b.runScript());
        CHECK.is("waited", 51, b.clock());
        CHECK.is("a byte above 127", 1, b.feed(0x80000000, 0, 0, 0, 0));
        CHECK.is("it is kept", -1, b.runScript());
        CHECK.is("its error", 1, b.errorCode());
        for (int i = 1; i <= 35; i++) {
            CHECK.is("feed " + i, 20 * i, b.feed(0x20202020, 0x20202020, 0x20202020, 0x20202020, 0x20202020));
        }
        CHECK.is("nothing fits", -1, b.feed(0, 0, 0, 0, 1));
        CHECK.is("nothing to append fits", 700, b.feed(0, 0, 0, 0, 0));
        CHECK.is("700 blanks are a script", 0, b.runScript());
        for (int i = 1; i <= 34; i++) {
            b.feed(0x20202020, 0x20202020, 0x20202020, 0x20202020, 0x20202020);
        }
        CHECK.is("699", 699, b.feed(0x20202020, 0x20202020, 0x20202020, 0x20202020, 0x20202000));
        CHECK.is("two bytes do not fit, nor one of them", -1, b.feed(0x20, 0, 0x20, 0, 0));
        CHECK.is("still 699", 699, b.feed(0, 0, 0, 0, 0));
        CHECK.is("exactly 700", 700, b.feed(0, 0, 0x200000, 0, 0));
        for (int word = 0; word < 5; word++) {
            int[] words = new int[5];
            words[word] = 0x20202020;
            CHECK.is("the buffer is full", -1, b.feed(words[0], words[1], words[2], words[3], words[4]));
        }
        CHECK.is("still 700", 700, b.feed(0, 0, 0, 0, 0));
        order();
    }

    private static void order() {
        PennyBakery b = Check.bakery("bakery 0 0 1;");
        CHECK.is("twenty bytes", 20, b.feed(0x77616974, 0x20313b20, 0x77616974, 0x20323b20, 0x0a0a0a0a));
        CHECK.is("two commands", 2, b.runScript());
        CHECK.is("clock", 3, b.clock());
        CHECK.is("the last word", 8, b.feed(0, 0, 0, 0x666c6f75, 0x72313b20));
        CHECK.is("one command", 1, b.runScript());
        CHECK.is("price", 1, b.flourPrice(0));
    }

    private static void promise3() {
        PennyBakery b = new PennyBakery();
        b.waitMinutes(5);
        b.save(0);
        b.save(1);
        b.writeBatch(0);
        CHECK.is("a setup with an error", -1, Check.load(b, "bakery 5 5 3; flour 10; flour"));
        CHECK.is("nothing changes", 55, b.clock());
        CHECK.is("flours", 2, b.flourCount());
        CHECK.is("cash", 1042, b.cash());
        CHECK.is("undo stays", 1, b.undoCount());
        CHECK.is("the buffer is empty", 0, b.feed(0, 0, 0, 0, 0));
        CHECK.is("slots stay", 1042, b.restore(0));
        b.waitMinutes(5);
        CHECK.is("an empty text", -1, b.loadSetup());
        CHECK.is("its code", 1, b.errorCode());
        CHECK.is("its position", 0, b.errorPosition());
        CHECK.is("undo stays", 1, b.undoCount());
        CHECK.is("a setup", 0, Check.load(b, "bakery 500 3 3;"));
        CHECK.is("the buffer is empty", 0, b.feed(0, 0, 0, 0, 0));
        CHECK.is("undo", 0, b.undoCount());
        CHECK.noState("no undo", b::undo);
        CHECK.fails("slot 0", java.util.NoSuchElementException.class, () -> b.restore(0));
        CHECK.fails("slot 1", java.util.NoSuchElementException.class, () -> b.restore(1));
        CHECK.isText("the output stays", "p26 u20 b46", Check.output(b));
        CHECK.is("clock", 0, b.clock());
        CHECK.is("cash", 500, b.cash());
        CHECK.is("flours", 0, b.flourCount());
        CHECK.is("breads", 0, b.breadCount());
        CHECK.is("batches", 0, b.batchCount());
        CHECK.is("ovens", 3, b.ovenCount());
        CHECK.is("free", 0, b.freeAt(0) + b.freeAt(1) + b.freeAt(2));
        CHECK.is("rate", 3, b.standardRate());
        CHECK.is("rate 1", 3, b.rateAt(1));
        CHECK.is("income", 0, b.income());
        CHECK.is("flour", 0, b.spentOnFlour());
        CHECK.is("ovens", 0, b.spentOnOvens());
        CHECK.is("loss", 0, b.totalLoss());
        CHECK.is("consistent", 0, b.consistencyError());
        CHECK.is("number of batches", 2, Check.load(b, STOCKED + "bake 0 1;bake 0 2;"));
        CHECK.is("no change", 0, b.undoCount());
        CHECK.is("setup twice counts anew", 1, Check.load(b, STOCKED + "bake 0 1;"));
        CHECK.is("loaves", 1, b.loavesOf(0));
        CHECK.is("gaps of flours", 0, b.priceGap(0) + b.useGap(0));
        nothingIsLeftBehind();
    }

    private static void nothingIsLeftBehind() {
        String plain = "bakery 700 5 3;flour 10;flour 20;bread 100 3 40;bread 90 1 5;";
        String fresh = Check.stateOf(Check.bakery(plain));
        PennyBakery b = Check.bakery("bakery 9999 2 3;flour 7;flour 8;bread 100 3 14;bread 90 1 5;buy 0 99 6;buy 1 99 9;"
                + "rate 0 7;rate 23 9;bake 0 4 burnt 1 more 2 late 3;bake 1 5 less 2;bake 1 2 early 1;sell 1 2 80;wait 99;");
        for (int i = 0; i < 3; i++) {
            CHECK.is("a setup", 0, Check.load(b, plain));
            CHECK.isText("nothing is left behind", fresh, Check.stateOf(b));
            Check.run(b, "buy 0 9 8;buy 1 9 30;rate 3 3;bake 0 1;bake 1 1;bake 0 1 less 1;sell 1 1 30;wait 99;");
            CHECK.is("the script was good", 0, b.errorCode());
        }
    }

    private static void promise4() {
        PennyBakery b = Check.bakery(STOCKED);
        String before = Check.stateOf(b);
        CHECK.is("commands", 3, Check.run(b, "wait 10; bake 0 5 burnt 1;\nsell 0 4 90;"));
        CHECK.is("one change", 1, b.undoCount());
        CHECK.is("clock", 10, b.clock());
        CHECK.is("loaves", 0, b.loavesOf(0));
        CHECK.is("the buffer is empty", 0, b.feed(0, 0, 0, 0, 0));
        String after = Check.stateOf(b);
        CHECK.is("an error in the last command", -1, Check.run(b, "wait 10; flour 7; bake 0 5; sell 0 6 90;"));
        CHECK.isText("nothing changes", after, Check.stateOf(b));
        CHECK.is("no change", 1, b.undoCount());
        CHECK.is("the buffer is empty", 0, b.feed(0, 0, 0, 0, 0));
        CHECK.is("an empty script", 0, b.runScript());
        CHECK.is("is a change", 2, b.undoCount());
        CHECK.is("undo the empty script", 1, b.undo());
        CHECK.isText("nothing", after, Check.stateOf(b));
        CHECK.is("undo the script", 0, b.undo());
        CHECK.isText("all at once", before, Check.stateOf(b));
        CHECK.is("all commands", 7, Check.run(b,
                "flour 20;bread 99 9 19;buy 1 30 19;rate 0 5;bake 1 3 burnt 3 less 4 early 9;bake 0 1;sell 0 1 1;"));
        CHECK.is("flour", 20, b.flourPrice(1));
        CHECK.is("bread", 9, b.minutesOf(1));
        CHECK.is("rate", 5, b.rateAt(0));
        CHECK.is("no good loaves", 0, b.goodLoaves(0));
        CHECK.is("less", -40, b.gapOf(0, PennyBakery.USE));
        CHECK.is("early", -18, b.gapOf(0, PennyBakery.TIME));
        CHECK.is("sold", 1, b.income());
        CHECK.is("units", 27, b.unitsOf(1));
    }

    private static void promises5And6() {
        PennyBakery b = new PennyBakery();
        script(b, "walt 1;", 1, 0);
        CHECK.is("a good script", 1, Check.run(b, "wait 1;"));
        CHECK.is("no code", 0, b.errorCode());
        CHECK.is("no position", -1, b.errorPosition());
        script(b, "wait 0;", 2, 5);
        b.undo();
        CHECK.is("undo leaves the code", 2, b.errorCode());
        CHECK.is("and the position", 5, b.errorPosition());
        b.save(0);
        Check.run(b, "");
        b.restore(0);
        CHECK.is("restore leaves the code", 0, b.errorCode());
        script(b, "wait 1000;", 2, 5);
        b.restore(0);
        CHECK.is("restore leaves the code", 2, b.errorCode());
        CHECK.is("a good setup", 0, Check.load(b, "bakery 0 0 1;"));
        CHECK.is("no code", 0, b.errorCode());
        CHECK.is("no position", -1, b.errorPosition());
    }

    private static void syntaxErrors() {
        PennyBakery b = new PennyBakery();
        setup(b, "", 1, 0);
        setup(b, "  \n ", 1, 4);
        setup(b, "flour 1;", 1, 0);
        setup(b, "Bakery 1 1 1;", 1, 0);
        setup(b, "bakery", 1, 6);
        setup(b, "bakerys 1 1 1;", 1, 0);
        setup(b, "baker 1 1 1;", 1, 0);
        setup(b, "bakery;", 1, 6);
        setup(b, "bakery 1 1;", 1, 10);
        setup(b, "bakery 1 1 1 1;", 1, 13);
        setup(b, "bakery 1 1 1", 1, 12);
        setup(b, "bakery 1 1 1  ", 1, 14);
        setup(b, "bakery 1 1 1;;", 1, 13);
        setup(b, "bakery 1 1 1;bakery 1 1 1;", 1, 13);
        setup(b, "bakery 1 1 x;", 1, 11);
        setup(b, "bakery 1 1 1;\twait 1;", 1, 13);
        script(b, "bakery 1 1 1;", 1, 0);
        script(b, ";", 1, 0);
        script(b, "7;", 1, 0);
        script(b, "burnt 1;", 1, 0);
        script(b, "wait 1; early 1;", 1, 8);
        script(b, "wait", 1, 4);
        script(b, "wait ", 1, 5);
        script(b, "wait 1", 1, 6);
        script(b, "wait 1 \n", 1, 8);
        script(b, "wait 1 2;", 1, 7);
        script(b, "wait -1;", 1, 5);
        script(b, "wait 1#;", 1, 6);
        script(b, "wa#it 1;", 1, 0);
        script(b, "wait 1;#", 1, 7);
        script(b, "wait 1;\r", 1, 7);
        script(b, "wait 1;\u00e9", 1, 7);
        script(b, "wait 1;\u0001", 1, 7);
        script(b, "wait 1;`", 1, 7);
        script(b, "wait 1;{", 1, 7);
        script(b, "wait 1:", 1, 6);
        script(b, "wait 1/", 1, 6);
        script(b, "wAit 1;", 1, 0);
        script(b, "wait one;", 1, 5);
        script(b, "waitz 1;", 1, 0);
        script(b, "awit 1;", 1, 0);
        script(b, "wait 9z;", 1, 6);
        script(b, ";".repeat(700), 1, 0);
        good(b, "wait 1;" + " ".repeat(693), 1);
        script(b, " ".repeat(699) + "x", 1, 699);
        script(b, "bake 0 2" + " late 1".repeat(98) + "      ", 1, 700);
        script(b, "bake 0 2" + "late1".repeat(138) + " ", 1, 699);
        script(b, "bake0 2" + "9".repeat(693), 2, 6);
        script(b, "flour;", 1, 5);
        script(b, "flour 1 1;", 1, 8);
        script(b, "flour1;bread;", 1, 12);
        script(b, "bread 1 1;", 1, 9);
        script(b, "buy 0 1;", 1, 7);
        script(b, "rate 1;", 1, 6);
        script(b, "bake 0;", 1, 6);
        script(b, "bake 0 1 more;", 1, 13);
        script(b, "bake 0 1 1;", 1, 9);
        script(b, "bake 0 1 more 1 1;", 1, 16);
        script(b, "bake 0 1 most 1;", 1, 9);
        script(b, "bake 0 1 wait 1;", 1, 9);
        script(b, "bake 0 1 more 1", 1, 15);
        script(b, "bake 0 1 late", 1, 13);
        script(b, "sell 0 1;", 1, 8);
        good(b, "wait1;wait\n2 ; wait 003;\n", 3);
        good(b, "wait 00000000000000000000000000000000001;", 1);
        good(b, "bake0 1more1less1;", 1);
    }

    private static void rangeErrors() {
        PennyBakery b = new PennyBakery();
        setup(b, "bakery 100000 1 1;", 2, 7);
        setup(b, "bakery 1 21 1;", 2, 9);
        setup(b, "bakery 1 1 0;", 2, 11);
        setup(b, "bakery 1 1 4;", 2, 11);
        setup(b, "bakery 4294967297 1 1;", 2, 7);
        setup(b, "bakery 18446744073709551617 1 1;", 2, 7);
        setup(b, "bakery 100000", 2, 7);
        CHECK.is("highest setup", 0, Check.load(b, "bakery 99999 20 3;"));
        CHECK.is("cash", 99999, b.cash());
        CHECK.is("rate", 20, b.standardRate());
        CHECK.is("lowest setup", 0, Check.load(b, "bakery 0 0 1;"));
        CHECK.is("ovens", 1, b.ovenCount());
        CHECK.is("setup", 0, Check.load(b, "bakery 99999 0 1;flour 1;bread 1 9 1;buy 0 99 1;buy 0 99 1;buy 0 99 1;"));
        range(b, "flour ", 1, 99, ";");
        range(b, "bread ", 1, 999, " 1 1;");
        range(b, "bread 1 ", 1, 9, " 1;");
        range(b, "buy 0 ", 1, 99, " 1;");
        range(b, "buy 0 1 ", 1, 99, ";");
        range(b, "rate ", 0, 23, " 0;");
        range(b, "rate 0 ", 0, 20, ";");
        range(b, "bake 0 ", 1, 20, ";");
        range(b, "bake 0 3 burnt ", 0, 3, ";");
        range(b, "bake 0 20 burnt ", 0, 20, ";");
        range(b, "bake 0 9 more ", 0, 9, ";");
        range(b, "bake 0 9 less ", 0, 9, ";");
        range(b, "bake 0 9 late ", 0, 9, ";");
        range(b, "bake 0 9 early ", 0, 9, ";");
        range(b, "wait ", 1, 999, ";");
        CHECK.is("loaves to sell", 5, Check.run(b, "bake 0 20;bake 0 20;bake 0 20;bake 0 20;bake 0 20;"));
        range(b, "sell 0 ", 1, 99, " 1;");
        range(b, "sell 0 1 ", 1, 999, ";");
        script(b, "bake 0 21 burnt 21;", 2, 7);
        script(b, "bake 0 5 burnt 6 burnt 0;", 2, 15);
    }

    private static void recipeAndIndexErrors() {
        PennyBakery b = Check.bakery("bakery 999 1 1;");
        script(b, "bread 1 1 1;", 2, 10);
        script(b, "bread 1 1 0;", 2, 10);
        script(b, "buy 0 1 1;", 2, 4);
        script(b, "bake 0 1;", 2, 5);
        script(b, "sell 0 1 1;", 2, 5);
        script(b, "flour 1;bread 1 1 10;", 2, 18);
        script(b, "flour 1;bread 1 1 0;", 2, 18);
        script(b, "flour 1;buy 1 1 1;", 2, 12);
        script(b, "flour 1;bread 1 1 1;bake 1 1;", 2, 25);
        script(b, "flour 1;bread 1 1 1;sell 1 1 1;", 2, 25);
        script(b, "flour 1;flour 1;bread 1 1 100;", 2, 26);
        good(b, "flour 1;flour 1;bread 1 1 99;bread 1 1 10;bread 1 1 0001;", 5);
        b.undo();
        String five = "flour 1;flour 1;flour 1;flour 1;flour 1;";
        script(b, five + "bread 1 1 100000;", 2, 50);
        good(b, five + "flour 1;bread 1 1 999999;bread 1 1 100000;", 8);
        b.undo();
        script(b, five + "flour 1;bread 1 1 1000000;", 2, 58);
        script(b, five + "flour 1;bread 1 1 1000001;", 2, 58);
        script(b, five + "flour 1;bread 1 1 0;", 2, 58);
    }

    private static void stateErrors() {
        PennyBakery b = Check.bakery("bakery 100 2 1;flour 5;bread 50 1 3;");
        script(b, "buy 0 9 12;", 3, 10);
        good(b, "buy 0 10 10;", 1);
        CHECK.is("cash", 0, b.cash());
        script(b, "buy 0 1 1;", 3, 9);
        script(b, "bake 0 4 ;", 3, 9);
        script(b, "bake 0 1 less 4;", 3, 15);
        script(b, "bake 0 1 early 1;", 3, 16);
        script(b, "sell 0 1 1;", 3, 10);
        good(b, "bake 0 3;sell 0 3 50;", 2);
        script(b, "sell 0 1 1;", 3, 10);
        script(b, "bake 0 1;wait 0;", 3, 8);
        PennyBakery lots = Check.bakery("bakery 999 0 1;flour 1;");
        String ten = "buy 0 1 1;".repeat(10);
        script(lots, ten + "buy 0 1 1;buy 0 1 1;buy 0 1 1;", 3, 129);
        good(lots, ten + "buy 0 1 1;buy 0 1 1;", 12);
        PennyBakery batches = Check.bakery("bakery 999 0 1;flour 1;bread 1 1 1;buy 0 99 1;");
        script(batches, "bake 0 1;".repeat(25), 3, 224);
        good(batches, "bake 0 1;".repeat(24), 24);
        script(batches, "bake 0 1;", 3, 8);
    }

    private static void limitErrors() {
        PennyBakery b = Check.bakery("bakery 0 0 1;");
        good(b, "flour 1;".repeat(6), 6);
        script(b, "flour 1;", 4, 0);
        script(b, "wait 1;flour x", 4, 7);
        good(b, "bread 1 1 1;".repeat(6), 6);
        script(b, "bread 1 1 1;", 4, 0);
        good(b, "wait 1;".repeat(40), 40);
        CHECK.is("clock", 40, b.clock());
        script(b, "wait 1;".repeat(41), 4, 280);
        script(b, "wait 1;".repeat(40) + " x 1;", 1, 281);
        script(b, "wait 1;".repeat(40) + "bakery", 1, 280);
        script(b, "wait 1;".repeat(40) + "1", 1, 280);
        script(b, "wait 1;".repeat(40) + "buy", 4, 280);
        CHECK.is("40 commands of a setup", 0, Check.load(b, "bakery 1 1 1;" + "wait 1;".repeat(40)));
        setup(b, "bakery 1 1 1;" + "wait 1;".repeat(41), 4, 293);
        setup(b, "bakery 1 1 1;" + "flour 1;".repeat(7), 4, 61);
    }

    private static void extras() {
        PennyBakery b = Check.bakery(STOCKED);
        batch(b, "bake 0 5;", "", 5);
        batch(b, "bake 0 5 burnt 3;", "b138", 2);
        batch(b, "bake 0 5 burnt 3 burnt 1;", "b46", 4);
        batch(b, "bake 0 5 burnt 3 burnt 0;", "", 5);
        batch(b, "bake 0 5 more 3;", "u30", 5);
        batch(b, "bake 0 5 less 3;", "u-30", 5);
        batch(b, "bake 0 5 more 3 less 2;", "u-20", 5);
        batch(b, "bake 0 5 less 3 more 2;", "u20", 5);
        batch(b, "bake 0 5 less 3 more 0;", "", 5);
        batch(b, "bake 0 5 late 3;", "t6", 5);
        batch(b, "bake 0 5 early 3;", "t-6", 5);
        batch(b, "bake 0 5 late 3 early 2;", "t-4", 5);
        batch(b, "bake 0 5 early 3 late 2;", "t4", 5);
        batch(b, "bake 0 5 late 1 more 1 burnt 1 early 2 less 2 burnt 2;", "u-20 t-4 b92", 3);
    }

    private static void batch(PennyBakery b, String script, String due, int good) {
        CHECK.is(script, 1, Check.run(b, script));
        b.writeBatch(0);
        CHECK.isText(script, due, Check.output(b));
        CHECK.is(script, good, b.goodLoaves(0));
        b.undo();
    }

    /** Both ends of a range are right, and the numbers next to them are not. */
    private static void range(PennyBakery b, String before, int low, int high, String after) {
        good(b, before + low + after, 1);
        b.undo();
        good(b, before + high + after, 1);
        b.undo();
        script(b, before + (high + 1) + after, 2, before.length());
        script(b, before + (4294967296L + low) + after, 2, before.length());
        if (low > 0) {
            script(b, before + (low - 1) + after, 2, before.length());
        }
    }

    private static void good(PennyBakery b, String text, int commands) {
        CHECK.is("script " + text, commands, Check.run(b, text));
        CHECK.is("code of " + text, 0, b.errorCode());
        CHECK.is("position of " + text, -1, b.errorPosition());
    }

    private static void script(PennyBakery b, String text, int code, int position) {
        CHECK.is("script " + text, -1, Check.run(b, text));
        error(b, text, code, position);
    }

    private static void setup(PennyBakery b, String text, int code, int position) {
        CHECK.is("setup " + text, -1, Check.load(b, text));
        error(b, text, code, position);
    }

    private static void error(PennyBakery b, String text, int code, int position) {
        CHECK.is("code of " + text, code, b.errorCode());
        CHECK.is("position of " + text, position, b.errorPosition());
    }
}
