import java.util.Arrays;

/**
 * The boundary cases of texts that the document names: the input buffer, the tokens, the grammar, the
 * ranges of its numbers, the error codes and positions, and promises 2 to 6. Above each test stands its sentence.
 */
final class TextEdgesTest {
    private static final Check CHECK = new Check("TextEdgesTest");
    /** A bakery with stock and loaves, so that every command can be executed in it. */
    private static final String STOCKED = "bakery 9999 2 2;flour 5;bread 50 1 1;buy 0 99 5;bake 0 9;";
    private static final String[] COMMANDS = {
        "flour 5 ;", "bread 9 9 1 ;", "buy 0 1 1 ;", "rate 0 0 ;", "bake 0 1 ;", "bake 0 1 burnt 1 ;", "bake 0 1 more 1 ;",
        "bake 0 2 less 1 ;", "bake 0 1 late 1 ;", "bake 0 2 early 1 ;", "bake 0 2 less 1 burnt 2 late 1 more 0 early 1 ;",
        "sell 0 1 1 ;", "wait 1 ;"};
    private static final int[] BLANKS = {0x20202020, 0x20202020, 0x20202020, 0x20202020, 0x20202020};

    public static void main(String[] args) {
        placesOfFedBytes();
        skippedBytes();
        fullBuffer();
        bufferAfterwards();
        bytesOfTokens();
        maximalRuns();
        longNumbers();
        spacesAndLineFeeds();
        everyCommand();
        textsThatEndTooEarly();
        wrongTokens();
        wrongSetups();
        rangesOfASetup();
        rangesOfCommands();
        rangesOfExtras();
        indices();
        recipes();
        lastExtraCounts();
        executedAtTheSemicolon();
        firstErrorCounts();
        smallestCode();
        stateErrors();
        limitOfFlours();
        limitOfBreads();
        limitOfCommands();
        setupsWithErrors();
        scriptsWithErrors();
        setupsWithoutErrors();
        emptyTexts();
        numberOfBatches();
        numberOfCommands();
        reportedError();
        CHECK.end();
    }

    /** "the four bytes of each parameter in order, the most significant byte first" */
    private static void placesOfFedBytes() {
        for (int place = 0; place < 20; place++) {
            PennyBakery b = new PennyBakery();
            CHECK.is("20 bytes", 20, feedAt(b, BLANKS.clone(), place, '#'));
            CHECK.is("a wrong byte", -1, b.runScript());
            CHECK.is("the place of the byte", place, b.errorPosition());
        }
    }

    private static int feedAt(PennyBakery b, int[] words, int place, int value) {
        int shift = 24 - 8 * (place % 4);
        words[place / 4] = words[place / 4] & ~(255 << shift) | value << shift;
        return b.feed(words[0], words[1], words[2], words[3], words[4]);
    }

    /** "Bytes that are 0 are skipped." */
    private static void skippedBytes() {
        for (int place = 0; place < 20; place++) {
            PennyBakery b = new PennyBakery();
            CHECK.is("one byte at " + place, 1, feedAt(b, new int[5], place, ';'));
            b.runScript();
            CHECK.is("it is the first", 0, b.errorPosition());
            CHECK.is("all bytes but that at " + place, 19, feedAt(b, BLANKS.clone(), place, 0));
            CHECK.is("greatest byte at " + place, 20, feedAt(b, new int[5], place, 255));
            CHECK.is("it is kept", -1, b.runScript());
            CHECK.is("behind 19 blanks", 19, b.errorPosition());
        }
        for (int value = 1; value <= 255; value++) {
            PennyBakery b = new PennyBakery();
            for (int place = 0; place < 20; place++) {
                CHECK.is("byte " + value + " at " + place, place + 1, feedAt(b, new int[5], place, value));
            }
        }
        PennyBakery b = new PennyBakery();
        CHECK.is("no byte", 0, b.feed(0, 0, 0, 0, 0));
        CHECK.is("zeros inside of a word", 4, b.feed(0x77006100, 0x00690000, 0x00007400, 0, 0));
        CHECK.is("a zero inside of a number", 7, b.feed(0x20310032, 0, 0, 0, 0));
        CHECK.is("the semicolon", 8, b.feed(0, 0, 0, 0, 0x0000003b));
        CHECK.is("a script", 1, b.runScript());
        CHECK.is("12 minutes", 62, b.clock());
    }

    /** "NONE if it would exceed 700, in which case nothing is appended" */
    private static void fullBuffer() {
        for (int more = 0; more <= 20; more++) {
            PennyBakery fits = new PennyBakery();
            fill(fits, 700 - more);
            CHECK.is("exactly 700 with " + more, 700, feedBytes(fits, more));
            CHECK.is("a byte more", -1, feedBytes(fits, 1));
            CHECK.is("no byte more", 700, feedBytes(fits, 0));
            CHECK.is("a script of 700 blanks", 0, fits.runScript());
            if (more > 0) {
                PennyBakery exceeds = new PennyBakery();
                fill(exceeds, 701 - more);
                CHECK.is("701 with " + more, -1, feedBytes(exceeds, more));
                CHECK.is("nothing is appended", 701 - more, feedBytes(exceeds, 0));
                CHECK.is("there is room for one less", 700, feedBytes(exceeds, more - 1));
            }
        }
        everyByteIsTooMuch();
        PennyBakery b = new PennyBakery();
        fill(b, 693);
        CHECK.is("the last command", 700, Check.feed(b, "wait 7;"));
        CHECK.is("is refused a byte", -1, Check.feed(b, "#"));
        CHECK.is("and executed", 1, b.runScript());
        CHECK.is("clock", 57, b.clock());
    }

    private static void everyByteIsTooMuch() {
        PennyBakery b = new PennyBakery();
        fill(b, 700);
        for (int value = 1; value <= 255; value++) {
            CHECK.is("byte " + value + " behind 700", -1, feedAt(b, new int[5], value % 20, value));
        }
        CHECK.is("still 700", 700, feedBytes(b, 0));
    }

    private static void fill(PennyBakery b, int length) {
        for (int left = length; left > 0; left -= 20) {
            feedBytes(b, Math.min(left, 20));
        }
    }

    private static int feedBytes(PennyBakery b, int count) {
        int[] words = new int[5];
        for (int i = 0; i < count; i++) {
            words[i / 4] |= 32 << 8 * (i % 4);
        }
        return b.feed(words[0], words[1], words[2], words[3], words[4]);
    }

    /** "The input buffer is empty afterwards in both cases." */
    private static void bufferAfterwards() {
        PennyBakery b = new PennyBakery();
        Check.run(b, "wait 1;");
        CHECK.is("after a script", 4, Check.feed(b, "wait"));
        b.runScript();
        CHECK.is("after a script with an error", 6, Check.feed(b, "bakery"));
        b.loadSetup();
        CHECK.is("after a setup with an error", 13, Check.feed(b, "bakery 1 1 1;"));
        b.loadSetup();
        CHECK.is("after a setup", 0, b.feed(0, 0, 0, 0, 0));
        fill(b, 700);
        b.runScript();
        fill(b, 700);
        CHECK.is("full again", 700, b.feed(0, 0, 0, 0, 0));
        b.loadSetup();
        CHECK.is("empty after 700 bytes", 20, feedBytes(b, 20));
    }

    /** "a word (.. of the letters a to z), a number (.. of decimal digits ..) or a semicolon"; "the byte belongs to no token" */
    private static void bytesOfTokens() {
        for (int value = 1; value <= 255; value++) {
            char sign = (char) value;
            boolean blank = value == 32 || value == 10;
            boolean digit = value >= 48 && value <= 57;
            boolean letter = value >= 97 && value <= 122;
            String name = "byte " + value;
            PennyBakery b = new PennyBakery();
            result(b, name + " alone", sign + "", blank ? 0 : -1, 1, 0);
            result(b, name + " behind a command", "wait 1;" + sign, blank ? 1 : -1, 1, 7);
            result(b, name + " before a command", sign + "wait 1;", blank ? 1 : -1, 1, 0);
            result(b, name + " between word and number", "wait" + sign + "1;", blank || digit ? 1 : -1, 1, letter ? 0 : 4);
            result(b, name + " behind a number", "wait 1" + sign + ";", blank || digit ? 1 : -1, 1, value == ';' ? 7 : 6);
            result(b, name + " before a number", "wait " + sign + "1;", blank || digit ? 1 : -1, 1, 5);
            result(b, name + " for a semicolon", "wait 1" + sign, value == ';' ? 1 : -1, 1, blank || digit ? 7 : 6);
            result(b, name + " inside of a word", "wa" + sign + "it 1;", -1, 1, 0);
        }
    }

    private static void result(PennyBakery b, String what, String text, int commands, int code, int position) {
        CHECK.is(what, commands, Check.run(b, text));
        CHECK.is(what + ": code", commands < 0 ? code : 0, b.errorCode());
        CHECK.is(what + ": position", commands < 0 ? position : -1, b.errorPosition());
    }

    /** "a maximal run of the letters a to z", "a maximal run of decimal digits" */
    private static void maximalRuns() {
        PennyBakery b = Check.bakery(STOCKED);
        good(b, "wait1;wait2;", 2);
        CHECK.is("1 and 2 minutes", 3, b.clock());
        good(b, "wait12;", 1);
        CHECK.is("12 minutes", 15, b.clock());
        good(b, "rate0 1;", 1);
        bad(b, "rate01;", 1, 6);
        bad(b, "rate 0 1 0;", 1, 9);
        bad(b, "waitwait 1;", 1, 0);
        bad(b, "waitrate 1 1;", 1, 0);
        bad(b, "wai t 1;", 1, 0);
        bad(b, "bake 0 1 burntmore 1;", 1, 9);
        bad(b, "bake 0 1 latee 1;", 1, 9);
        bad(b, "bake 0 1 bur nt 1;", 1, 9);
        good(b, "bake0 1burnt1late1more0;wait1;", 2);
        for (String word : new String[] {"flour", "bread", "buy", "rate", "bake", "sell", "wait"}) {
            bad(b, word + "s 0 1;", 1, 0);
            bad(b, word.substring(1) + " 0 1;", 1, 0);
            bad(b, word.substring(0, word.length() - 1) + " 0 1;", 1, 0);
            bad(b, "x" + word + " 0 1;", 1, 0);
        }
        for (String word : new String[] {"burnt", "more", "less", "late", "early"}) {
            bad(b, "bake 0 1 " + word + "s 0;", 1, 9);
            bad(b, "bake 0 1 " + word.substring(1) + " 0;", 1, 9);
            bad(b, "bake 0 1 " + word.substring(0, word.length() - 1) + " 0;", 1, 9);
        }
        setup(b, "bakerybakery 1 1 1;", 1, 0);
        setup(b, "akery 1 1 1;", 1, 0);
    }

    /** "decimal digits of any length; leading zeros are allowed" */
    private static void longNumbers() {
        PennyBakery b = Check.bakery(STOCKED);
        good(b, "wait " + "0".repeat(691) + "999;", 1);
        CHECK.is("zeros in front", 999, b.clock());
        bad(b, "wait " + "0".repeat(690) + "1000;", 2, 5);
        bad(b, "wait " + "0".repeat(694) + ";", 2, 5);
        bad(b, "wait " + "9".repeat(694) + ";", 2, 5);
        bad(b, "wait 1" + "0".repeat(693) + ";", 2, 5);
        good(b, "rate " + "0".repeat(600) + " 0000;", 1);
        for (int bits = 8; bits <= 200; bits++) {
            String wrapped = java.math.BigInteger.ONE.shiftLeft(bits).add(java.math.BigInteger.ONE).toString();
            PennyBakery other = Check.bakery(STOCKED);
            bad(other, "rate 0 " + wrapped + ";", 2, 7);
            bad(other, "bread 1 1 " + (bits < 20 ? "1000000" : wrapped) + ";", 2, 10);
        }
        setup(b, "bakery " + "9".repeat(690) + " 1;", 2, 7);
        loaded(b, "bakery 0" + "0".repeat(600) + "99999 00020 003;", 0);
        CHECK.is("cash", 99999, b.cash());
        CHECK.is("rate", 20, b.standardRate());
        CHECK.is("ovens", 3, b.ovenCount());
    }

    /** "Spaces (byte 32) and line feeds (byte 10) may stand before, between and after tokens." */
    private static void spacesAndLineFeeds() {
        for (String blank : new String[] {" ", "\n", "  ", "\n\n", " \n", "\n "}) {
            PennyBakery b = Check.bakery(blank + "bakery" + blank + "9" + blank + "9" + blank + "1" + blank + ";" + blank);
            CHECK.is("cash", 9, b.cash());
            good(b, blank + "flour" + blank + "5" + blank + ";" + blank + "wait" + blank + "7" + blank + ";" + blank, 2);
            CHECK.is("price", 5, b.flourPrice(0));
            CHECK.is("clock", 7, b.clock());
            bad(b, blank + "flour" + blank + blank + "100;", 2, 5 + 3 * blank.length());
        }
        good(Check.bakery("bakery9 9 1;flour5;bread1 1 1;"), "bake0 1less1;wait1;", 2);
    }

    /** The commands that the grammar allows, as short as can be and with all their parts. */
    private static void everyCommand() {
        for (String command : COMMANDS) {
            good(Check.bakery(STOCKED), command, 1);
            good(Check.bakery(STOCKED), command + command.replace(" ;", ";"), 2);
            loaded(new PennyBakery(), STOCKED + command, command.startsWith("bake") ? 2 : 1);
        }
    }

    /** "or the length of the text if the text ends too early"; "or the text ends where more is required" */
    private static void textsThatEndTooEarly() {
        for (String command : COMMANDS) {
            String[] tokens = command.split(" ");
            for (int kept = 1; kept < tokens.length; kept++) {
                String text = String.join(" ", Arrays.copyOf(tokens, kept));
                PennyBakery b = Check.bakery(STOCKED);
                bad(b, text, 1, text.length());
                bad(b, text + " \n", 1, text.length() + 2);
                bad(b, "wait 1;" + text, 1, text.length() + 7);
                setup(b, STOCKED + text, 1, STOCKED.length() + text.length());
            }
        }
        String[] head = {"bakery", "9", "9", "1", ";"};
        for (int kept = 0; kept < 5; kept++) {
            String text = String.join(" ", Arrays.copyOf(head, kept));
            setup(new PennyBakery(), text, 1, text.length());
            setup(new PennyBakery(), text + "\n\n ", 1, text.length() + 3);
        }
        PennyBakery b = Check.bakery(STOCKED);
        bad(b, "wait 1;" + " ".repeat(689) + "wait", 1, 700);
        bad(b, "bake 0 1 " + "more1".repeat(138) + " ", 1, 700);
        bad(b, ";".repeat(700), 1, 0);
        bad(b, ";".repeat(699) + "1", 1, 0);
        bad(b, "#".repeat(700), 1, 0);
        good(b, "bake 0 1 " + "more1".repeat(138) + ";", 1);
    }

    /** "the grammar does not allow the token at this place" */
    private static void wrongTokens() {
        String[] noWords = {";", "7", "0", "burnt", "more", "zzz", "bakery", "#", "Wait"};
        String[] noNumbers = {";", "flour", "burnt", "late", "zzz", "#", "-1", "+1"};
        String[] noEnds = {"7", "0", "zzz", "#", "flour", "bakery", "wait", ":", ","};
        for (String command : COMMANDS) {
            String[] tokens = command.split(" ");
            for (int place = 0; place < tokens.length; place++) {
                boolean isNumber = tokens[place].matches("[0-9]+");
                String[] wrong = isNumber ? noNumbers : tokens[place].equals(";") ? noEnds : place == 0 ? noWords : noEnds;
                for (String token : wrong) {
                    wrongToken(tokens, place, token);
                }
            }
        }
        for (String extra : new String[] {"burnt", "more", "less", "late", "early"}) {
            wrongToken(new String[] {"wait", "1", ";"}, 2, extra);
            wrongToken(new String[] {"sell", "0", "1", "1", ";"}, 4, extra);
            wrongToken(new String[] {"bake", "0", "1", ";"}, 2, extra);
        }
    }

    private static void wrongToken(String[] tokens, int place, String token) {
        String[] changed = tokens.clone();
        changed[place] = token;
        String before = String.join(" ", Arrays.copyOf(changed, place)) + (place > 0 ? " " : "");
        bad(Check.bakery(STOCKED), String.join(" ", changed), 1, before.length());
        bad(Check.bakery(STOCKED), "wait 1;" + before + token, 1, 7 + before.length());
    }

    /** setup = "bakery" CASH RATE OVENS ";" { command ";" } */
    private static void wrongSetups() {
        PennyBakery b = new PennyBakery();
        String[] head = {"bakery", "9", "9", "1", ";"};
        for (int place = 0; place < 5; place++) {
            for (String token : new String[] {"flour", "burnt", "zzz", "#", place == 4 ? "7" : ";", place == 0 ? "7" : "bakery"}) {
                String[] changed = head.clone();
                changed[place] = token;
                String before = String.join(" ", Arrays.copyOf(changed, place)) + (place > 0 ? " " : "");
                setup(b, String.join(" ", changed), 1, before.length());
            }
        }
        setup(b, "flour 9;", 1, 0);
        setup(b, "bakery 9 9 1;bakery 9 9 1;", 1, 13);
        setup(b, "bakery 9 9 1;;", 1, 13);
        setup(b, "bakery 9 9 1;wait 1;;", 1, 20);
        bad(b, "bakery 9 9 1;", 1, 0);
        bad(b, "wait 1;bakery 9 9 1;", 1, 7);
        bad(b, ";", 1, 0);
        bad(b, "wait 1;;", 1, 7);
        loaded(b, "bakery 9 9 1;", 0);
    }

    /** "CASH is 0 to 99999, RATE is 0 to 20, OVENS is 1 to 3" */
    private static void rangesOfASetup() {
        PennyBakery b = new PennyBakery();
        loaded(b, "bakery 0 0 1;", 0);
        CHECK.is("least", 1, b.cash() + b.standardRate() + b.ovenCount());
        loaded(b, "bakery 99999 20 3;", 0);
        CHECK.is("greatest", 99999 + 20 + 3, b.cash() + b.standardRate() + b.ovenCount());
        setup(b, "bakery 100000 0 1;", 2, 7);
        setup(b, "bakery 0 21 1;", 2, 9);
        setup(b, "bakery 0 0 0;", 2, 11);
        setup(b, "bakery 0 0 4;", 2, 11);
        CHECK.is("the state stays", 99999, b.cash());
    }

    /** "PRICE is 1 to 99, LISTPRICE is 1 to 999, .. HOUR is 0 to 23, COUNT is 1 to 999", "The UNITS of "buy" are 1 to 99" .. */
    private static void rangesOfCommands() {
        String stock = "bakery 99999 0 1;flour 1;bread 1 9 1;buy 0 99 1;buy 0 99 1;" + "bake 0 20;".repeat(5);
        range(stock, "flour ", 1, 99, ";");
        range(stock, "bread ", 1, 999, " 1 1;");
        range(stock, "bread 1 ", 1, 9, " 1;");
        range(stock, "buy 0 ", 1, 99, " 1;");
        range(stock, "buy 0 1 ", 1, 99, ";");
        range(stock, "rate ", 0, 23, " 1;");
        range(stock, "rate 1 ", 0, 20, ";");
        range(stock, "bake 0 ", 1, 20, ";");
        range(stock, "sell 0 ", 1, 99, " 1;");
        range(stock, "sell 0 1 ", 1, 999, ";");
        range(stock, "wait ", 1, 999, ";");
    }

    /** "those of an extra 0 to 9", "those of "burnt" 0 to the planned loaves" */
    private static void rangesOfExtras() {
        String stock = "bakery 999 0 1;flour 1;bread 1 9 1;buy 0 99 1;";
        range(stock, "bake 0 9 more ", 0, 9, ";");
        range(stock, "bake 0 9 less ", 0, 9, ";");
        range(stock, "bake 0 9 late ", 0, 9, ";");
        range(stock, "bake 0 9 early ", 0, 9, ";");
        for (int loaves = 1; loaves <= 20; loaves++) {
            range(stock, "bake 0 " + loaves + " burnt ", 0, loaves, ";");
        }
        range(stock, "bake 0 9 more 1 late 1 burnt ", 0, 9, " early 1;");
    }

    /** Both ends of a range are allowed; the numbers next to them are errors, also where they would wrap around. */
    private static void range(String setup, String before, int low, int high, String after) {
        good(Check.bakery(setup), before + low + after, 1);
        good(Check.bakery(setup), before + high + after, 1);
        PennyBakery b = Check.bakery(setup);
        String state = Check.stateOf(b);
        bad(b, before + (high + 1) + after, 2, before.length());
        bad(b, before + (low == 0 ? "4294967296" : low - 1 + "") + after, 2, before.length());
        bad(b, before + (high + 1), 2, before.length());
        CHECK.isText("nothing changes", state, Check.stateOf(b));
    }

    /** "FLOUR and BREAD are indices." */
    private static void indices() {
        PennyBakery b = Check.bakery("bakery 999 0 1;");
        bad(b, "buy 0 1 1;", 2, 4);
        bad(b, "sell 0 1 1;", 2, 5);
        bad(b, "bake 0 1;", 2, 5);
        for (int count = 1; count <= 6; count++) {
            int last = count - 1;
            good(b, "flour 1;bread 1 1 1;buy " + last + " 1 1;", 3);
            bad(b, "buy " + count + " 1 1;", 2, 4);
            bad(b, "bake " + count + " 1;", 2, 5);
            bad(b, "sell " + count + " 1 1;", 2, 5);
            good(b, "wait 7;bake " + last + " 1 less 1;", 2);
            good(b, "wait 7;sell " + last + " 1 1;", 2);
        }
        bad(b, "buy 6 1 1;", 2, 4);
        bad(b, "bake 4294967296 1;", 2, 5);
        PennyBakery fresh = Check.bakery("bakery 999 0 1;");
        good(fresh, "flour 1;buy 0 1 1;bread 1 1 1;bake 0 1;sell 0 1 1;", 5);
        bad(fresh, "buy 1 1 1;flour 1;", 2, 4);
    }

    /** "RECIPE is 1 to 999999"; "also a RECIPE with an amount of a flour that does not exist" */
    private static void recipes() {
        PennyBakery b = Check.bakery("bakery 0 0 1;");
        StringBuilder nines = new StringBuilder();
        for (int flours = 0; flours <= 6; flours++) {
            bad(b, "bread 1 1 0;", 2, 10);
            bad(b, "bread 1 1 1" + "0".repeat(flours) + ";", 2, 10);
            bad(b, "bread 1 1 9" + nines + ";", 2, 10);
            if (flours > 0) {
                good(b, "bread 1 1 " + nines + ";", 1);
                b.undo();
                good(b, "bread 1 1 1" + "0".repeat(flours - 1) + ";", 1);
                b.undo();
                good(b, "bread 1 1 000000" + nines + ";", 1);
                b.undo();
            }
            if (flours < 6) {
                b.addFlour(1);
                nines.append('9');
            }
        }
        bad(b, "bread 1 1 1000000;", 2, 10);
        bad(b, "bread 1 1 " + (4294967296L + 1) + ";", 2, 10);
        PennyBakery one = Check.bakery("bakery 0 0 1;");
        bad(one, "bread 1 1 1;flour 1;", 2, 10);
        good(one, "flour 1;bread 1 1 1;", 2);
    }

    /** "the last one counts; without one, it is 0; "less" and "early" mean numbers less than 0" */
    private static void lastExtraCounts() {
        extras("", 0, 0, 0);
        for (int number = 0; number <= 9; number++) {
            extras(" burnt " + number, number, 0, 0);
            extras(" more " + number, 0, number, 0);
            extras(" less " + number, 0, -number, 0);
            extras(" late " + number, 0, 0, number);
            extras(" early " + number, 0, 0, -number);
        }
        extras(" burnt 3 burnt 1", 1, 0, 0);
        extras(" burnt 3 burnt 0", 0, 0, 0);
        extras(" more 3 more 1", 0, 1, 0);
        extras(" more 3 less 1", 0, -1, 0);
        extras(" less 3 more 1", 0, 1, 0);
        extras(" less 3 less 1", 0, -1, 0);
        extras(" more 3 less 0", 0, 0, 0);
        extras(" less 3 more 0", 0, 0, 0);
        extras(" late 3 late 1", 0, 0, 1);
        extras(" late 3 early 1", 0, 0, -1);
        extras(" early 3 late 1", 0, 0, 1);
        extras(" early 3 early 1", 0, 0, -1);
        extras(" late 3 early 0", 0, 0, 0);
        extras(" early 3 late 0", 0, 0, 0);
        extras(" late 1 burnt 2 more 3 early 4 burnt 5 less 6", 5, -6, -4);
        PennyBakery b = Check.bakery("bakery 999 1 1;flour 1;bread 1 1 1;buy 0 99 1;");
        good(b, "bake 0 9 burnt 1 more 2 late 3;bake 0 9;", 2);
        CHECK.is("extras of a batch are not those of the next", 0, b.lossOf(1));
        PennyBakery later = Check.bakery("bakery 999 1 1;flour 1;bread 1 1 1;buy 0 9 1;");
        bad(later, "bake 0 1 more 9 more 10 more 0;", 2, 21);
        bad(later, "bake 0 2 burnt 3 burnt 0;", 2, 15);
        good(later, "bake 0 9 more 1 more 0;", 1);
    }

    private static void extras(String text, int burnt, int extra, int late) {
        PennyBakery b = Check.bakery("bakery 999 1 1;flour 1;bread 1 1 1;buy 0 99 1;");
        good(b, "bake 0 10" + text + ";", 1);
        CHECK.is("burnt of" + text, 10 - burnt, b.goodLoaves(0));
        CHECK.is("extra of" + text, 89 - extra, b.unitsOf(0));
        CHECK.is("late of" + text, 10 + late, b.ovenMinutes(0));
    }

    /** "A command is executed when its semicolon has been read." */
    private static void executedAtTheSemicolon() {
        PennyBakery b = Check.bakery("bakery 10 0 1;");
        bad(b, "flour 1 bread 1 1 1;", 1, 8);
        good(b, "flour 1;bread 10 1 1;buy 0 10 1;bake 0 10;sell 0 1 10;buy 0 10 1;", 6);
        CHECK.is("each one sees what the others did", 0, b.cash());
        bad(b, "buy 0 1 1;sell 0 1 1;", 3, 9);
        good(b, "sell 0 1 1;buy 0 1 1;", 2);
        bad(b, "sell 0 8 1;sell 0 1 1;", 3, 21);
        CHECK.is("of a script with an error nothing", 8, b.loavesOf(0));
    }

    /** "A text is read from left to right up to the first token that has an error." */
    private static void firstErrorCounts() {
        PennyBakery b = Check.bakery("bakery 10 0 1;flour 1;bread 1 1 1;");
        bad(b, "wait 0;#", 2, 5);
        bad(b, "wait 0 0 0", 2, 5);
        bad(b, "buy 0 11 1;wait 0;", 3, 10);
        bad(b, "buy 0 99 99 9;", 1, 12);
        bad(b, "bake 1 21;", 2, 5);
        bad(b, "bake 0 21 burnt 22;", 2, 7);
        bad(b, "rate 24 21;", 2, 5);
        bad(b, "sell 0 1 1;#", 3, 10);
        bad(b, "#;wait 0;", 1, 0);
        setup(b, "bakery 100000 21 4#", 2, 7);
        setup(b, "bakery 1 1 1;wait 1;buy 0 1 1;#", 2, 24);
    }

    /** "If a token has several errors, the smallest code is reported" */
    private static void smallestCode() {
        PennyBakery b = Check.bakery("bakery 10 0 1;" + "flour 1;".repeat(6) + "bread 1 1 1;".repeat(6));
        String forty = "wait 1;".repeat(40);
        bad(b, forty + "zzz", 1, 280);
        bad(b, forty + ";", 1, 280);
        bad(b, forty + "bakery", 1, 280);
        bad(b, forty + "burnt", 1, 280);
        bad(b, forty + "#", 1, 280);
        bad(b, forty + "99999999", 1, 280);
        bad(b, forty + "flour", 4, 280);
        bad(b, forty + "bread", 4, 280);
        bad(b, "wait flour;", 1, 5);
        bad(b, "wait 1 flour 1;", 1, 7);
        bad(b, "wait 1 1000000;", 1, 7);
        bad(b, "sell 0 1;", 1, 8);
        bad(b, "buy 0 99;", 1, 8);
        bad(b, "1000000", 1, 0);
        PennyBakery one = Check.bakery("bakery 10 0 1;flour 1;" + "bread 1 1 1;".repeat(5));
        bad(one, "bread 1 1 1000000;", 2, 10);
    }

    /** "3 (state): the semicolon of a command whose method would throw an IllegalStateException" */
    private static void stateErrors() {
        PennyBakery b = Check.bakery("bakery 10 0 1;flour 1;bread 1 1 2;");
        good(b, "buy 0 5 2;", 1);
        b.undo();
        bad(b, "buy 0 11 1 ;", 3, 11);
        good(b, "buy 0 10 1;", 1);
        bad(b, "buy 0 1 1\n\n;", 3, 11);
        bad(b, "bake 0 6;", 3, 8);
        bad(b, "bake 0 5 more 1;", 3, 15);
        bad(b, "bake 0 1 less 3;", 3, 15);
        bad(b, "bake 0 1 early 1;", 3, 16);
        bad(b, "sell 0 1 1;", 3, 10);
        good(b, "bake 0 1 less 2;bake 0 5;sell 0 6 1;", 3);
        bad(b, "sell 0 1 1;", 3, 10);
        bad(b, "bake 0 1;", 3, 8);
        bad(b, "wait 1;bake 0 1;", 3, 15);
        setup(b, "bakery 0 0 1;flour 1;buy 0 1 1;", 3, 30);
        setup(b, "bakery 0 0 1;flour 1;bread 1 1 1;bake 0 1;", 3, 41);
        setup(b, "bakery 0 0 1;flour 1;bread 1 1 1;sell 0 1 1;", 3, 43);
        PennyBakery lots = Check.bakery("bakery 99 0 1;flour 1;" + "buy 0 1 1;".repeat(11));
        bad(lots, "buy 0 1 1;buy 0 1 1;", 3, 19);
        good(lots, "buy 0 1 1;", 1);
        bad(lots, "buy 0 1 1;", 3, 9);
        PennyBakery batches = Check.bakery("bakery 99 0 1;flour 1;bread 1 1 1;buy 0 99 1;" + "bake 0 1;".repeat(23));
        bad(batches, "bake 0 1;bake 0 1;", 3, 17);
        good(batches, "bake 0 1;", 1);
        bad(batches, "bake 0 1;", 3, 8);
    }

    /** "except for the numbers of flours and breads"; "the words "flour" .. while there are 6 of them" */
    private static void limitOfFlours() {
        PennyBakery b = Check.bakery("bakery 0 0 1;" + "flour 1;".repeat(5));
        bad(b, "flour 1;flour 1;", 4, 8);
        good(b, "flour 1;", 1);
        bad(b, "flour 1;", 4, 0);
        bad(b, "flour", 4, 0);
        bad(b, "flour 0;", 4, 0);
        bad(b, "flour;", 4, 0);
        bad(b, "wait 1;\n flour 1;", 4, 9);
        bad(b, "wait flour", 1, 5);
        b.undo();
        good(b, "flour 1;", 1);
        setup(b, "bakery 0 0 1;" + "flour 1;".repeat(7), 4, 61);
        loaded(b, "bakery 0 0 1;" + "flour 1;".repeat(6), 0);
    }

    /** "the words .. "bread" while there are 6 of them" */
    private static void limitOfBreads() {
        PennyBakery b = Check.bakery("bakery 0 0 1;flour 1;" + "bread 1 1 1;".repeat(5));
        bad(b, "bread 1 1 1;bread 1 1 1;", 4, 12);
        good(b, "bread 1 1 1;", 1);
        bad(b, "bread 1 1 1;", 4, 0);
        bad(b, "bread", 4, 0);
        bad(b, "bread 0 0 0;", 4, 0);
        bad(b, "wait 1;\n bread 1 1 1;", 4, 9);
        good(b, "flour 1;", 1);
        b.undo();
        b.undo();
        good(b, "bread 1 1 1;", 1);
        setup(b, "bakery 0 0 1;flour 1;" + "bread 1 1 1;".repeat(7), 4, 93);
        loaded(b, "bakery 0 0 1;flour 1;" + "bread 1 1 1;".repeat(6), 0);
    }

    /** "or the first word of a 41st command" */
    private static void limitOfCommands() {
        PennyBakery b = Check.bakery("bakery 99 0 1;flour 1;bread 1 1 1;");
        good(b, "wait 1;".repeat(39), 39);
        good(b, "wait 1;".repeat(40), 40);
        CHECK.is("79 minutes", 79, b.clock());
        good(b, "wait 1;".repeat(40) + " \n", 40);
        for (String word : new String[] {"flour", "bread", "buy", "rate", "bake", "sell", "wait"}) {
            bad(b, "wait 1;".repeat(40) + " " + word, 4, 281);
            bad(b, "wait 1;".repeat(40) + word + " 1;", 4, 280);
        }
        CHECK.is("nothing is executed", 119, b.clock());
        loaded(b, "bakery 9 9 1;" + "wait 1;".repeat(40), 0);
        CHECK.is("the first words of a setup are no command", 40, b.clock());
        setup(b, "bakery 9 9 1;" + "wait 1;".repeat(41), 4, 293);
        bad(b, "wait 0;" + "wait 1;".repeat(40), 2, 5);
        good(b, "wait 1;", 1);
        good(b, "wait 1;".repeat(40), 40);
    }

    /** "If the text has an error, the state does not change." */
    private static void setupsWithErrors() {
        String[] texts = {"", "bakery 5 5 3", "bakery 5 5 3;flour 0;", "bakery 5 5 3;flour 1;buy 0 99 99;",
            "bakery 5 5 3;wait 5;flour 9;bread 9 9 9;" + "wait 1;".repeat(38)};
        int[] codes = {1, 1, 2, 3, 4};
        for (int i = 0; i < texts.length; i++) {
            String text = texts[i];
            int code = codes[i];
            String got = Scene.kept(() -> {
                PennyBakery b = Scene.busy();
                b.loadSetup();
                Check.load(b, text);
                CHECK.is("code of " + text, code, b.errorCode());
                return b;
            });
            CHECK.isText("nothing changes by " + text, Scene.kept(Scene::busy), got);
        }
    }

    /** "If the text has an error, the state does not change at all." */
    private static void scriptsWithErrors() {
        String all = "flour 9;bread 9 9 1;buy 0 1 1;rate 0 9;rate 1 9;bake 0 1 burnt 1;sell 0 1 9;wait 9;";
        String[] texts = {all + "x", all + "wait 0;", all + "buy 0 99 99;", all + "wait 1;".repeat(33)};
        for (int i = 0; i < texts.length; i++) {
            String text = texts[i];
            int code = i + 1;
            String got = Scene.kept(() -> {
                PennyBakery b = Scene.busy();
                b.runScript();
                Check.run(b, text);
                CHECK.is("code of " + text, code, b.errorCode());
                return b;
            });
            CHECK.isText("nothing changes by " + text, Scene.kept(Scene::busy), got);
        }
        PennyBakery good = Scene.busy();
        good.runScript();
        CHECK.is("without the error", 8, Check.run(good, all));
    }

    /** "the new bakery replaces the state (the clock is at minute 0, there are no flours, breads and batches, and nothing is counted)" */
    private static void setupsWithoutErrors() {
        PennyBakery b = Scene.busy();
        b.runScript();
        loaded(b, "bakery 77 3 1;", 0);
        CHECK.is("clock", 0, b.clock());
        CHECK.is("cash", 77, b.cash());
        CHECK.is("no flours, breads and batches", 0, b.flourCount() + b.breadCount() + b.batchCount());
        CHECK.is("nothing is counted", 0, b.income() + b.spentOnFlour() + b.spentOnOvens() + b.flourValue() + b.loafValue());
        for (int kind = 0; kind <= 5; kind++) {
            CHECK.is("no gaps of " + kind, 0, b.gapSum(kind));
        }
        CHECK.is("no loss", 0, b.totalLoss());
        CHECK.isReal("no mean loss", 0.0, b.meanLoss());
        CHECK.isReal("no burnt loaves", 0.0f, b.burntShare());
        CHECK.is("no change can be undone", 0, b.undoCount());
        CHECK.noState("undo", b::undo);
        CHECK.fails("no state in slot 0", java.util.NoSuchElementException.class, () -> b.restore(0));
        CHECK.fails("no state in slot 1", java.util.NoSuchElementException.class, () -> b.restore(1));
        CHECK.isText("the output is no part of the state", "p26 u20 b46", Check.output(b));
        CHECK.isText("as a bakery that never was another", Check.stateOf(Check.bakery("bakery 77 3 1;")), Check.stateOf(b));
        b.waitMinutes(1);
        CHECK.is("changes count from here", 0, b.undo());
        CHECK.is("clock", 0, b.clock());
        usedBakeries();
    }

    /** The same for setups with commands, one after the other on one object: each makes a bakery that never was another. */
    private static void usedBakeries() {
        String rich = "bakery 9999 3 3;flour 7;flour 8;flour 9;bread 99 3 14;bread 90 1 5;bread 80 2 300;buy 0 50 6;buy 1 50 9;buy 2 50 1;"
                + "rate 0 7;bake 0 4 burnt 1 more 2 late 3;bake 1 5 less 2;bake 2 2 early 1;sell 1 2 80;sell 2 1 90;wait 99;";
        String plain = "bakery 700 5 2;flour 10;flour 20;flour 30;bread 98 4 40;bread 91 1 500;bread 71 1 7;";
        String stocked = plain + "buy 0 9 9;buy 1 9 19;buy 2 9 29;bake 0 1 more 1;bake 1 1 less 1;bake 2 1 more 1;";
        String[] texts = {rich, plain, rich, stocked, plain, stocked};
        for (int last = 0; last < 2 * texts.length; last++) {
            PennyBakery b = new PennyBakery();
            String text = "";
            for (int i = 0; i <= last; i++) {
                text = texts[i % texts.length];
                loaded(b, text, text.equals(plain) ? 0 : 3);
            }
            CHECK.isText("as a new bakery", Check.stateOf(Check.bakery(text)), Check.stateOf(b));
        }
    }

    /** script = { command ";" }: none is enough for a script, but not for a setup. */
    private static void emptyTexts() {
        PennyBakery b = new PennyBakery();
        CHECK.is("an empty script", 0, b.runScript());
        CHECK.is("has no error", 0, b.errorCode());
        CHECK.is("is a change", 1, b.undoCount());
        CHECK.is("an empty setup", -1, b.loadSetup());
        CHECK.is("has an error", 1, b.errorCode());
        CHECK.is("at the length of the text", 0, b.errorPosition());
        good(b, " ", 0);
        good(b, "\n", 0);
        setup(b, "\n ", 1, 2);
    }

    /** loadSetup: "Returns the number of batches; NONE if the text has an error." */
    private static void numberOfBatches() {
        String stock = "bakery 99 0 1;flour 1;bread 1 1 1;buy 0 99 1;";
        for (int batches = 0; batches <= 24; batches++) {
            loaded(new PennyBakery(), stock + "bake 0 1;".repeat(batches), batches);
        }
        CHECK.is("25 batches", -1, Check.load(new PennyBakery(), stock + "bake 0 1;".repeat(25)));
    }

    /** runScript: "Returns the number of commands; NONE if the text has an error." "All commands together are one change." */
    private static void numberOfCommands() {
        for (int commands = 0; commands <= 41; commands++) {
            PennyBakery b = new PennyBakery();
            CHECK.is("commands", commands > 40 ? -1 : commands, Check.run(b, "wait 1;".repeat(commands)));
            CHECK.is("changes", commands > 40 ? 0 : 1, b.undoCount());
            CHECK.is("clock", commands > 40 ? 50 : 50 + commands, b.clock());
            if (commands <= 40) {
                CHECK.is("all undone at once", 0, b.undo());
                CHECK.is("clock", 50, b.clock());
            }
        }
    }

    /** errorCode, errorPosition: "of the latest call of loadSetup() or runScript()", "if there was no such call" */
    private static void reportedError() {
        PennyBakery b = new PennyBakery();
        reported(b, 0, -1);
        String[] scripts = {"x", "wait 0;", "buy 0 99 99;", "wait 1;".repeat(41)};
        int[] positions = {0, 5, 11, 280};
        for (int code = 1; code <= 4; code++) {
            CHECK.is("a script", -1, Check.run(b, scripts[code - 1]));
            reported(b, code, positions[code - 1]);
            otherCalls(b);
            reported(b, code, positions[code - 1]);
            CHECK.is("a setup", -1, Check.load(b, "bakery 2000 2 1;flour 1;" + scripts[code - 1]));
            // Four blanks were fed before; the 41st command of the setup comes one earlier, because it has another first one.
            int before = 4 + 24 - (code == 4 ? 7 : 0);
            reported(b, code, before + positions[code - 1]);
            good(b, "wait 1;", 1);
        }
        CHECK.is("an error", -1, Check.run(b, "x"));
        loaded(b, "bakery 1 1 1;", 0);
        CHECK.is("an error", -1, Check.load(b, "x"));
        loaded(b, "bakery 1 1 1;", 0);
    }

    private static void otherCalls(PennyBakery b) {
        b.save(0);
        b.waitMinutes(1);
        b.setRate(0, 1);
        b.undo();
        b.feed(0x20202020, 0, 0, 0, 0);
        b.restore(0);
        b.writeBatch(0);
        CHECK.noState("a refused call", b::undo);
        CHECK.noArgument("a refused call", () -> b.waitMinutes(0));
    }

    private static void reported(PennyBakery b, int code, int position) {
        CHECK.is("reported code", code, b.errorCode());
        CHECK.is("reported position", position, b.errorPosition());
    }

    private static void good(PennyBakery b, String text, int commands) {
        CHECK.is("script " + text, commands, Check.run(b, text));
        reported(b, 0, -1);
    }

    private static void bad(PennyBakery b, String text, int code, int position) {
        CHECK.is("script " + text, -1, Check.run(b, text));
        CHECK.is("code of " + text, code, b.errorCode());
        CHECK.is("position of " + text, position, b.errorPosition());
    }

    private static void loaded(PennyBakery b, String text, int batches) {
        CHECK.is("setup " + text, batches, Check.load(b, text));
        reported(b, 0, -1);
    }

    private static void setup(PennyBakery b, String text, int code, int position) {
        CHECK.is("setup " + text, -1, Check.load(b, text));
        CHECK.is("code of " + text, code, b.errorCode());
        CHECK.is("position of " + text, position, b.errorPosition());
    }
}
