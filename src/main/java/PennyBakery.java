import java.util.NoSuchElementException;

/**
 * A bakery that explains every lost penny.
 *
 * <p>The face checks what it is given and throws; the classes inside trust what they are given and
 * never throw, so that texts can use them too and report errors as codes. Every change works on one
 * of a fixed number of states, all made in the constructor and used again, so that calls make nothing.
 */
public final class PennyBakery {
    public static final int NONE = -1;
    public static final int PRICE = 0;
    public static final int USE = 1;
    public static final int RATE = 2;
    public static final int TIME = 3;
    public static final int BURNT = 4;
    public static final int SALES = 5;

    private static final int BATCH_KINDS = 5;
    private static final int ALL_KINDS = 6;
    private static final String KIND_LETTERS = "purtb";

    private static final int MAX_FLOURS = 6;
    private static final int MAX_LOTS = 12;
    private static final int MAX_BREADS = 6;
    private static final int MAX_OVENS = 3;
    private static final int MAX_BATCHES = 24;
    private static final int MAX_CHANGES = 8;
    private static final int SLOTS = 2;
    private static final int HOURS = 24;
    private static final int MINUTES_PER_HOUR = 60;

    private static final int MAX_CASH = 99999;
    private static final int MAX_RATE = 20;
    private static final int MAX_PRICE = 99;
    private static final int MAX_LIST_PRICE = 999;
    private static final int MAX_STANDARD_MINUTES = 9;
    private static final int MAX_UNITS = 99;
    private static final int MAX_PLANNED = 20;
    private static final int MAX_EXTRA = 9;
    private static final int MAX_LATE = 9;
    private static final int MAX_SOLD = 99;
    private static final int MAX_WAIT = 999;

    private static final int MAX_TEXT = 700;
    private static final int MAX_COMMANDS = 40;
    private static final String FIRST_SETUP = "bakery 2000 2 2; flour 10; flour 25; bread 150 3 4; bread 240 5 23; buy 0 40 11; buy 0 30 9; buy 1 20 28; rate 1 4; bake 0 6 burnt 1 more 2; wait 50; bake 1 4 late 3; sell 0 3 140;";

    private State state;
    private State draft;
    private final History history;
    private final State[] saved;
    private final boolean[] isSaved;
    private final Interpreter interpreter;
    private final StringBuilder output;

    public PennyBakery() {
        state = new State();
        draft = new State();
        history = new History();
        saved = new State[SLOTS];
        for (int slot = 0; slot < SLOTS; slot++) {
            saved[slot] = new State();
        }
        isSaved = new boolean[SLOTS];
        interpreter = new Interpreter();
        output = new StringBuilder();
        for (int i = 0; i < FIRST_SETUP.length(); i++) {
            interpreter.text.append(FIRST_SETUP.charAt(i));
        }
        interpreter.read(state, true);
        interpreter.text.clear();
    }

    // ---- texts

    public int feed(int a, int b, int c, int d, int e) {
        Text text = interpreter.text;
        int more = bytesIn(a) + bytesIn(b) + bytesIn(c) + bytesIn(d) + bytesIn(e);
        if (text.length + more > MAX_TEXT) {
            return NONE;
        }
        appendBytes(a);
        appendBytes(b);
        appendBytes(c);
        appendBytes(d);
        appendBytes(e);
        return text.length;
    }

    public int loadSetup() {
        boolean good = interpreter.read(draft, true);
        interpreter.text.clear();
        if (!good) {
            return NONE;
        }
        takeDraft();
        history.forget();
        for (int slot = 0; slot < SLOTS; slot++) {
            isSaved[slot] = false;
        }
        return state.batches.count;
    }

    public int runScript() {
        draft.copyFrom(state);
        boolean good = interpreter.read(draft, false);
        interpreter.text.clear();
        if (!good) {
            return NONE;
        }
        history.remember(state);
        takeDraft();
        return interpreter.commands;
    }

    public int errorCode() {
        return interpreter.error;
    }

    public int errorPosition() {
        return interpreter.errorAt;
    }

    // ---- money and time

    public int clock() {
        return state.clock;
    }

    public int cash() {
        return state.cash;
    }

    public int undoCount() {
        return history.count;
    }

    // ---- flours

    public int flourCount() {
        return state.flours.count;
    }

    public int flourPrice(int flour) throws IndexOutOfBoundsException {
        requireFlour(flour);
        return state.flours.price[flour];
    }

    public int unitsOf(int flour) throws IndexOutOfBoundsException {
        requireFlour(flour);
        return state.flours.stock(flour);
    }

    public int lotsOf(int flour) throws IndexOutOfBoundsException {
        requireFlour(flour);
        return state.flours.lots[flour];
    }

    public int lotUnits(int flour, int lot) throws IndexOutOfBoundsException {
        requireLot(flour, lot);
        return state.flours.units[flour][lot];
    }

    public int lotPrice(int flour, int lot) throws IndexOutOfBoundsException {
        requireLot(flour, lot);
        return state.flours.paid[flour][lot];
    }

    // ---- breads

    public int breadCount() {
        return state.breads.count;
    }

    public int listPrice(int bread) throws IndexOutOfBoundsException {
        requireBread(bread);
        return state.breads.list[bread];
    }

    public int minutesOf(int bread) throws IndexOutOfBoundsException {
        requireBread(bread);
        return state.breads.minutes[bread];
    }

    public int amountOf(int bread, int flour) throws IndexOutOfBoundsException {
        requireBread(bread);
        requireFlour(flour);
        return state.breads.amounts[bread][flour];
    }

    public int standardCost(int bread) throws IndexOutOfBoundsException {
        requireBread(bread);
        return state.breads.cost[bread];
    }

    public int loavesOf(int bread) throws IndexOutOfBoundsException {
        requireBread(bread);
        return state.breads.loaves[bread];
    }

    // ---- ovens

    public int ovenCount() {
        return state.ovens.count;
    }

    public int freeAt(int oven) throws IndexOutOfBoundsException {
        requireIndex(oven, state.ovens.count);
        return state.ovens.free[oven];
    }

    public int nextOven() {
        return state.ovens.firstFree();
    }

    public int rateAt(int hour) throws IllegalArgumentException {
        requireRange(hour, 0, HOURS - 1);
        return state.ovens.rates[hour];
    }

    public int standardRate() {
        return state.ovens.standard;
    }

    // ---- batches

    public int batchCount() {
        return state.batches.count;
    }

    public int batchBread(int batch) throws IndexOutOfBoundsException {
        requireBatch(batch);
        return state.batches.bread[batch];
    }

    public int goodLoaves(int batch) throws IndexOutOfBoundsException {
        requireBatch(batch);
        return state.batches.planned[batch] - state.batches.burnt[batch];
    }

    public int startOf(int batch) throws IndexOutOfBoundsException {
        requireBatch(batch);
        return state.batches.start[batch];
    }

    public int ovenMinutes(int batch) throws IndexOutOfBoundsException {
        requireBatch(batch);
        return state.batches.minutes[batch];
    }

    public int costOf(int batch) throws IndexOutOfBoundsException {
        requireBatch(batch);
        return state.batches.flourCost[batch] + state.batches.ovenCost[batch];
    }

    public int lossOf(int batch) throws IndexOutOfBoundsException {
        requireBatch(batch);
        return state.batches.loss[batch];
    }

    public int gapOf(int batch, int kind) throws IndexOutOfBoundsException, IllegalArgumentException {
        requireBatch(batch);
        requireRange(kind, PRICE, BURNT);
        return state.batches.gaps[batch][kind];
    }

    public int kindAt(int batch, int place) throws IndexOutOfBoundsException {
        requireBatch(batch);
        return state.batches.kindInPlace(batch, place);
    }

    // ---- all gaps

    public int gapSum(int kind) throws IllegalArgumentException {
        requireRange(kind, PRICE, SALES);
        return state.sumOfKind(kind);
    }

    public int priceGap(int flour) throws IndexOutOfBoundsException {
        requireFlour(flour);
        return state.flours.priceGaps[flour];
    }

    public int useGap(int flour) throws IndexOutOfBoundsException {
        requireFlour(flour);
        return state.flours.useGaps[flour];
    }

    public int totalLoss() {
        return state.sumOfAllGaps();
    }

    public int worstBatch() {
        return state.batches.dearest();
    }

    public int worstKind() {
        return state.dearestKind();
    }

    // ---- predictions; nothing changes

    public int bakeObstacle(int bread, int loaves, int extra, int late)
            throws IndexOutOfBoundsException, IllegalArgumentException {
        requireBread(bread);
        requirePlan(loaves, extra, late);
        return state.obstacle(bread, loaves, extra, late);
    }

    public int lossIfBaked(int bread, int loaves)
            throws IndexOutOfBoundsException, IllegalArgumentException, IllegalStateException {
        requireBread(bread);
        requirePlan(loaves, 0, 0);
        requireState(state.obstacle(bread, loaves, 0, 0) == 0);
        return state.plainLoss(bread, loaves);
    }

    public int possibleLoaves(int bread) throws IndexOutOfBoundsException {
        requireBread(bread);
        return state.mostLoaves(bread);
    }

    public int bestWait(int bread, int loaves) throws IndexOutOfBoundsException, IllegalArgumentException {
        requireBread(bread);
        requirePlan(loaves, 0, 0);
        return state.cheapestWait(bread, loaves);
    }

    // ---- accounts

    public int income() {
        return state.earned;
    }

    public int spentOnFlour() {
        return state.paidForFlour;
    }

    public int spentOnOvens() {
        return state.batches.sumOfOvenCosts();
    }

    public int flourValue() {
        return state.flours.value();
    }

    public int loafValue() {
        return state.breads.value();
    }

    public int consistencyError() {
        return state.imbalance() + state.batches.unexplained();
    }

    public double meanLoss() {
        int count = state.batches.count;
        return count == 0 ? 0.0 : (double) state.batches.sumOfLosses() / (double) count;
    }

    public float burntShare() {
        int planned = state.batches.sumOfPlanned();
        return planned == 0 ? 0.0f : (float) state.batches.sumOfBurnt() / (float) planned;
    }

    // ---- changes

    public int addFlour(int price) throws IllegalArgumentException, IllegalStateException {
        requireRange(price, 1, MAX_PRICE);
        requireState(state.flours.count < MAX_FLOURS);
        history.remember(state);
        return state.flours.create(price);
    }

    public int addBread(int price, int minutes, int recipe)
            throws IllegalArgumentException, IllegalStateException {
        requireRange(price, 1, MAX_LIST_PRICE);
        requireRange(minutes, 1, MAX_STANDARD_MINUTES);
        requireRange(recipe, 1, state.flours.highestRecipe());
        requireState(state.breads.count < MAX_BREADS);
        history.remember(state);
        return state.createBread(price, minutes, recipe);
    }

    public int buy(int flour, int units, int price)
            throws IndexOutOfBoundsException, IllegalArgumentException, IllegalStateException {
        requireFlour(flour);
        requireRange(units, 1, MAX_UNITS);
        requireRange(price, 1, MAX_PRICE);
        requireState(state.canBuyLot(flour, units, price));
        history.remember(state);
        state.buyLot(flour, units, price);
        return state.cash;
    }

    public int setRate(int hour, int rate) throws IllegalArgumentException {
        requireRange(hour, 0, HOURS - 1);
        requireRange(rate, 0, MAX_RATE);
        history.remember(state);
        int previous = state.ovens.rates[hour];
        state.ovens.rates[hour] = rate;
        return previous;
    }

    public int bake(int bread, int loaves, int burnt, int extra, int late)
            throws IndexOutOfBoundsException, IllegalArgumentException, IllegalStateException {
        requireBread(bread);
        requirePlan(loaves, extra, late);
        requireRange(burnt, 0, loaves);
        requireState(state.obstacle(bread, loaves, extra, late) == 0);
        history.remember(state);
        return state.bakeBatch(bread, loaves, burnt, extra, late);
    }

    public int sell(int bread, int loaves, int price)
            throws IndexOutOfBoundsException, IllegalArgumentException, IllegalStateException {
        requireBread(bread);
        requireRange(loaves, 1, MAX_SOLD);
        requireRange(price, 1, MAX_LIST_PRICE);
        requireState(loaves <= state.breads.loaves[bread]);
        history.remember(state);
        state.sellLoaves(bread, loaves, price);
        return state.cash;
    }

    public int waitMinutes(int minutes) throws IllegalArgumentException {
        requireRange(minutes, 1, MAX_WAIT);
        history.remember(state);
        state.clock += minutes;
        return state.clock;
    }

    // ---- undo, saved states, output

    public int undo() throws IllegalStateException {
        requireState(history.count > 0);
        history.takeBack(state);
        return history.count;
    }

    public int save(int slot) throws IllegalArgumentException {
        requireRange(slot, 0, SLOTS - 1);
        saved[slot].copyFrom(state);
        isSaved[slot] = true;
        return state.cash;
    }

    public int restore(int slot) throws IllegalArgumentException, NoSuchElementException {
        requireRange(slot, 0, SLOTS - 1);
        if (!isSaved[slot]) {
            throw new NoSuchElementException("no state is saved in this slot");
        }
        state.copyFrom(saved[slot]);
        history.forget();
        return state.cash;
    }

    public int writeBatch(int batch) throws IndexOutOfBoundsException {
        requireBatch(batch);
        output.setLength(0);
        for (int kind = PRICE; kind <= BURNT; kind++) {
            int gap = state.batches.gaps[batch][kind];
            if (gap != 0) {
                writeGap(kind, gap);
            }
        }
        return output.length();
    }

    public int outputByte(int index) {
        if (index < 0 || index >= output.length()) {
            return NONE;
        }
        return output.charAt(index);
    }

    // ---- helpers of the face

    private static void requireIndex(int index, int count) {
        if (index < 0 || index >= count) {
            throw new IndexOutOfBoundsException("there is nothing with this index");
        }
    }

    private static void requireRange(int value, int low, int high) {
        if (value < low || value > high) {
            throw new IllegalArgumentException("a value is out of its range");
        }
    }

    private static void requireState(boolean possible) {
        if (!possible) {
            throw new IllegalStateException("the bakery does not allow this now");
        }
    }

    private static void requirePlan(int loaves, int extra, int late) {
        requireRange(loaves, 1, MAX_PLANNED);
        requireRange(extra, -MAX_EXTRA, MAX_EXTRA);
        requireRange(late, -MAX_LATE, MAX_LATE);
    }

    private void requireFlour(int flour) {
        requireIndex(flour, state.flours.count);
    }

    private void requireLot(int flour, int lot) {
        requireFlour(flour);
        requireIndex(lot, state.flours.lots[flour]);
    }

    private void requireBread(int bread) {
        requireIndex(bread, state.breads.count);
    }

    private void requireBatch(int batch) {
        requireIndex(batch, state.batches.count);
    }

    private static int bytesIn(int word) {
        int count = 0;
        for (int shift = 24; shift >= 0; shift -= 8) {
            if ((word >>> shift & 255) != 0) {
                count++;
            }
        }
        return count;
    }

    private void appendBytes(int word) {
        for (int shift = 24; shift >= 0; shift -= 8) {
            int next = word >>> shift & 255;
            if (next != 0) {
                interpreter.text.append(next);
            }
        }
    }

    private void takeDraft() {
        State former = state;
        state = draft;
        draft = former;
    }

    private void writeGap(int kind, int gap) {
        if (output.length() > 0) {
            output.append(' ');
        }
        output.append(KIND_LETTERS.charAt(kind));
        output.append(gap);
    }

    private static int sumOf(int[] values, int count) {
        int sum = 0;
        for (int i = 0; i < count; i++) {
            sum += values[i];
        }
        return sum;
    }

    private static void copyRow(int[] from, int[] to) {
        System.arraycopy(from, 0, to, 0, Math.min(from.length, to.length));
    }

    private static final class Flours {
        int count;
        final int[] price = new int[MAX_FLOURS];
        final int[] lots = new int[MAX_FLOURS];
        final int[][] units = new int[MAX_FLOURS][MAX_LOTS];
        final int[][] paid = new int[MAX_FLOURS][MAX_LOTS];
        final int[] priceGaps = new int[MAX_FLOURS];
        final int[] useGaps = new int[MAX_FLOURS];

        void copyFrom(Flours other) {
            count = other.count;
            copyRow(other.price, price);
            copyRow(other.lots, lots);
            copyRow(other.priceGaps, priceGaps);
            copyRow(other.useGaps, useGaps);
            for (int flour = 0; flour < MAX_FLOURS; flour++) {
                copyRow(other.units[flour], units[flour]);
                copyRow(other.paid[flour], paid[flour]);
            }
        }

        int create(int standardPrice) {
            if (count >= MAX_FLOURS) {
                return NONE;
            }
            int flour = count;
            price[flour] = standardPrice;
            lots[flour] = 0;
            priceGaps[flour] = 0;
            useGaps[flour] = 0;
            count++;
            return flour;
        }

        /** The greatest recipe without an amount of a flour that does not exist; 0 without flours. */
        int highestRecipe() {
            int recipes = 1;
            for (int flour = 0; flour < count; flour++) {
                recipes *= 10;
            }
            return recipes - 1;
        }

        int stock(int flour) {
            return sumOf(units[flour], lots[flour]);
        }

        int value() {
            int sum = 0;
            for (int flour = 0; flour < count; flour++) {
                for (int lot = 0; lot < lots[flour]; lot++) {
                    sum += units[flour][lot] * paid[flour][lot];
                }
            }
            return sum;
        }

        void addLot(int flour, int lotSize, int unitPrice) {
            int lot = lots[flour];
            units[flour][lot] = lotSize;
            paid[flour][lot] = unitPrice;
            lots[flour]++;
        }

        /** What was paid for the units that would be used next. */
        int paidForNext(int flour, int wanted) {
            int sum = 0;
            int rest = wanted;
            for (int lot = 0; lot < lots[flour] && rest > 0; lot++) {
                int taken = Math.min(rest, units[flour][lot]);
                sum += taken * paid[flour][lot];
                rest -= taken;
            }
            return sum;
        }

        void take(int flour, int wanted) {
            int rest = wanted;
            int kept = 0;
            for (int lot = 0; lot < lots[flour]; lot++) {
                int taken = Math.min(rest, units[flour][lot]);
                int left = units[flour][lot] - taken;
                rest -= taken;
                if (left > 0) {
                    units[flour][kept] = left;
                    paid[flour][kept] = paid[flour][lot];
                    kept++;
                }
            }
            lots[flour] = kept;
        }
    }

    private static final class Breads {
        int count;
        final int[] list = new int[MAX_BREADS];
        final int[] minutes = new int[MAX_BREADS];
        final int[] cost = new int[MAX_BREADS];
        final int[] mainFlour = new int[MAX_BREADS];
        final int[] loaves = new int[MAX_BREADS];
        final int[] sold = new int[MAX_BREADS];
        final int[][] amounts = new int[MAX_BREADS][MAX_FLOURS];

        void copyFrom(Breads other) {
            count = other.count;
            copyRow(other.list, list);
            copyRow(other.minutes, minutes);
            copyRow(other.cost, cost);
            copyRow(other.mainFlour, mainFlour);
            copyRow(other.loaves, loaves);
            copyRow(other.sold, sold);
            for (int bread = 0; bread < MAX_BREADS; bread++) {
                copyRow(other.amounts[bread], amounts[bread]);
            }
        }

        int create(int price, int standardMinutes, int recipe) {
            int bread = count;
            list[bread] = price;
            minutes[bread] = standardMinutes;
            loaves[bread] = 0;
            sold[bread] = 0;
            mainFlour[bread] = NONE;
            int rest = recipe;
            for (int flour = 0; flour < MAX_FLOURS; flour++) {
                amounts[bread][flour] = rest % 10;
                rest /= 10;
                if (mainFlour[bread] == NONE && amounts[bread][flour] > 0) {
                    mainFlour[bread] = flour;
                }
            }
            count++;
            return bread;
        }

        int unitsFor(int bread, int flour, int planned, int extra) {
            int units = amounts[bread][flour] * planned;
            return flour == mainFlour[bread] ? units + extra : units;
        }

        int value() {
            int sum = 0;
            for (int bread = 0; bread < count; bread++) {
                sum += loaves[bread] * cost[bread];
            }
            return sum;
        }

        /** What the sold loaves would have earned above their standard costs at their list prices. */
        int standardProfit() {
            int sum = 0;
            for (int bread = 0; bread < count; bread++) {
                sum += sold[bread] * (list[bread] - cost[bread]);
            }
            return sum;
        }
    }

    private static final class Ovens {
        int count;
        int standard;
        final int[] free = new int[MAX_OVENS];
        final int[] rates = new int[HOURS];

        void copyFrom(Ovens other) {
            count = other.count;
            standard = other.standard;
            copyRow(other.free, free);
            copyRow(other.rates, rates);
        }

        void open(int ovens, int rate) {
            count = ovens;
            standard = rate;
            for (int oven = 0; oven < MAX_OVENS; oven++) {
                free[oven] = 0;
            }
            for (int hour = 0; hour < HOURS; hour++) {
                rates[hour] = rate;
            }
        }

        int firstFree() {
            int first = 0;
            for (int oven = 1; oven < count; oven++) {
                if (free[oven] < free[first]) {
                    first = oven;
                }
            }
            return first;
        }

        int startFrom(int minute) {
            return Math.max(free[firstFree()], minute);
        }

        int priceOfMinutes(int start, int minutes) {
            int sum = 0;
            for (int i = 0; i < minutes; i++) {
                sum += rates[Math.floorMod((start + i) / MINUTES_PER_HOUR, HOURS)];
            }
            return sum;
        }
    }

    private static final class Batches {
        int count;
        final int[] bread = new int[MAX_BATCHES];
        final int[] planned = new int[MAX_BATCHES];
        final int[] burnt = new int[MAX_BATCHES];
        final int[] start = new int[MAX_BATCHES];
        final int[] minutes = new int[MAX_BATCHES];
        final int[] flourCost = new int[MAX_BATCHES];
        final int[] ovenCost = new int[MAX_BATCHES];
        final int[] loss = new int[MAX_BATCHES];
        final int[][] gaps = new int[MAX_BATCHES][BATCH_KINDS];

        void copyFrom(Batches other) {
            count = other.count;
            copyRow(other.bread, bread);
            copyRow(other.planned, planned);
            copyRow(other.burnt, burnt);
            copyRow(other.start, start);
            copyRow(other.minutes, minutes);
            copyRow(other.flourCost, flourCost);
            copyRow(other.ovenCost, ovenCost);
            copyRow(other.loss, loss);
            for (int batch = 0; batch < MAX_BATCHES; batch++) {
                copyRow(other.gaps[batch], gaps[batch]);
            }
        }

        int sumOfPlanned() {
            return sumOf(planned, count);
        }

        int sumOfBurnt() {
            return sumOf(burnt, count);
        }

        int sumOfOvenCosts() {
            return sumOf(ovenCost, count);
        }

        int sumOfLosses() {
            return sumOf(loss, count);
        }

        int sumOfGaps(int kind) {
            int sum = 0;
            for (int batch = 0; batch < count; batch++) {
                sum += gaps[batch][kind];
            }
            return sum;
        }

        int dearest() {
            int worst = NONE;
            for (int batch = 0; batch < count; batch++) {
                if (worst == NONE || loss[batch] > loss[worst]) {
                    worst = batch;
                }
            }
            return worst;
        }

        int kindInPlace(int batch, int place) {
            for (int kind = PRICE; kind <= BURNT; kind++) {
                if (placeOfKind(batch, kind) == place) {
                    return kind;
                }
            }
            return NONE;
        }

        private int placeOfKind(int batch, int kind) {
            int[] row = gaps[batch];
            int place = 0;
            for (int other = PRICE; other <= BURNT; other++) {
                if (row[other] > row[kind] || row[other] == row[kind] && other < kind) {
                    place++;
                }
            }
            return place;
        }

        int unexplained() {
            int found = 0;
            for (int batch = 0; batch < count; batch++) {
                if (loss[batch] != sumOf(gaps[batch], BATCH_KINDS)) {
                    found++;
                }
            }
            return found;
        }
    }

    /** Everything that undo and restore bring back. */
    private static final class State {
        int clock;
        int cash;
        int firstCash;
        int earned;
        int paidForFlour;
        int salesGap;
        final Flours flours = new Flours();
        final Breads breads = new Breads();
        final Ovens ovens = new Ovens();
        final Batches batches = new Batches();

        void copyFrom(State other) {
            clock = other.clock;
            cash = other.cash;
            firstCash = other.firstCash;
            earned = other.earned;
            paidForFlour = other.paidForFlour;
            salesGap = other.salesGap;
            flours.copyFrom(other.flours);
            breads.copyFrom(other.breads);
            ovens.copyFrom(other.ovens);
            batches.copyFrom(other.batches);
        }

        void open(int setupCash, int rate, int ovenTotal) {
            clock = 0;
            cash = setupCash;
            firstCash = setupCash;
            earned = 0;
            paidForFlour = 0;
            salesGap = 0;
            flours.count = 0;
            breads.count = 0;
            batches.count = 0;
            ovens.open(ovenTotal, rate);
        }

        int createBread(int price, int minutes, int recipe) {
            if (breads.count >= MAX_BREADS) {
                return NONE;
            }
            int bread = breads.create(price, minutes, recipe);
            int cost = minutes * ovens.standard;
            for (int flour = 0; flour < flours.count; flour++) {
                cost += breads.amounts[bread][flour] * flours.price[flour];
            }
            breads.cost[bread] = cost;
            return bread;
        }

        boolean canBuyLot(int flour, int units, int price) {
            return cash >= units * price && flours.lots[flour] < MAX_LOTS;
        }

        boolean buyLot(int flour, int units, int price) {
            if (!canBuyLot(flour, units, price)) {
                return false;
            }
            flours.addLot(flour, units, price);
            cash -= units * price;
            paidForFlour += units * price;
            return true;
        }

        /** The number of the first obstacle of a batch; 0 if there is none. */
        int obstacle(int bread, int loaves, int extra, int late) {
            if (batches.count >= MAX_BATCHES) {
                return 1;
            }
            if (breads.minutes[bread] * loaves + late < 1) {
                return 2;
            }
            boolean isShort = false;
            for (int flour = 0; flour < flours.count; flour++) {
                int units = breads.unitsFor(bread, flour, loaves, extra);
                if (units < 0) {
                    return 2;
                }
                isShort = isShort || units > flours.stock(flour);
            }
            return isShort ? 3 : 0;
        }

        /** Bakes a batch and returns its number; NONE if there is an obstacle. */
        int bakeBatch(int bread, int loaves, int burnt, int extra, int late) {
            if (obstacle(bread, loaves, extra, late) != 0) {
                return NONE;
            }
            int batch = batches.count;
            batches.count++;
            batches.bread[batch] = bread;
            batches.planned[batch] = loaves;
            batches.burnt[batch] = burnt;
            batches.flourCost[batch] = flourCostOf(bread, loaves, extra);
            int minutes = breads.minutes[bread] * loaves + late;
            useOven(batch, minutes);
            int good = loaves - burnt;
            breads.loaves[bread] += good;
            batches.loss[batch] = batches.flourCost[batch] + batches.ovenCost[batch] - good * breads.cost[bread];
            int[] gaps = batches.gaps[batch];
            gaps[PRICE] = 0;
            gaps[USE] = 0;
            for (int flour = 0; flour < flours.count; flour++) {
                useFlour(batch, flour, loaves, breads.unitsFor(bread, flour, loaves, extra));
            }
            gaps[RATE] = batches.ovenCost[batch] - minutes * ovens.standard;
            gaps[TIME] = late * ovens.standard;
            gaps[BURNT] = burnt * breads.cost[bread];
            return batch;
        }

        private int flourCostOf(int bread, int loaves, int extra) {
            int sum = 0;
            for (int flour = 0; flour < flours.count; flour++) {
                sum += flours.paidForNext(flour, breads.unitsFor(bread, flour, loaves, extra));
            }
            return sum;
        }

        private void useOven(int batch, int minutes) {
            int oven = ovens.firstFree();
            int start = ovens.startFrom(clock);
            int price = ovens.priceOfMinutes(start, minutes);
            ovens.free[oven] = start + minutes;
            cash -= price;
            batches.start[batch] = start;
            batches.minutes[batch] = minutes;
            batches.ovenCost[batch] = price;
        }

        private void useFlour(int batch, int flour, int loaves, int units) {
            int standardUnits = breads.amounts[batches.bread[batch]][flour] * loaves;
            int overpaid = flours.paidForNext(flour, units) - units * flours.price[flour];
            int overused = (units - standardUnits) * flours.price[flour];
            batches.gaps[batch][PRICE] += overpaid;
            batches.gaps[batch][USE] += overused;
            flours.priceGaps[flour] += overpaid;
            flours.useGaps[flour] += overused;
            flours.take(flour, units);
        }

        boolean sellLoaves(int bread, int loaves, int price) {
            if (loaves > breads.loaves[bread]) {
                return false;
            }
            breads.loaves[bread] -= loaves;
            breads.sold[bread] += loaves;
            cash += loaves * price;
            earned += loaves * price;
            salesGap += loaves * (breads.list[bread] - price);
            return true;
        }

        int plainLoss(int bread, int loaves) {
            int ovenPrice = plainOvenPrice(bread, loaves, 0);
            return flourCostOf(bread, loaves, 0) + ovenPrice - loaves * breads.cost[bread];
        }

        private int plainOvenPrice(int bread, int loaves, int waitedHours) {
            int start = ovens.startFrom(clock + waitedHours * MINUTES_PER_HOUR);
            return ovens.priceOfMinutes(start, breads.minutes[bread] * loaves);
        }

        int mostLoaves(int bread) {
            int most = 0;
            for (int loaves = 1; loaves <= MAX_PLANNED; loaves++) {
                if (obstacle(bread, loaves, 0, 0) == 0) {
                    most = loaves;
                }
            }
            return most;
        }

        int cheapestWait(int bread, int loaves) {
            int best = 0;
            int bestPrice = plainOvenPrice(bread, loaves, 0);
            for (int hours = 1; hours < HOURS; hours++) {
                int price = plainOvenPrice(bread, loaves, hours);
                if (price < bestPrice) {
                    best = hours;
                    bestPrice = price;
                }
            }
            return best;
        }

        int sumOfKind(int kind) {
            return kind == SALES ? salesGap : batches.sumOfGaps(kind);
        }

        int sumOfAllGaps() {
            int sum = 0;
            for (int kind = 0; kind < ALL_KINDS; kind++) {
                sum += sumOfKind(kind);
            }
            return sum;
        }

        int dearestKind() {
            int worst = PRICE;
            for (int kind = USE; kind < ALL_KINDS; kind++) {
                if (sumOfKind(kind) > sumOfKind(worst)) {
                    worst = kind;
                }
            }
            return worst;
        }

        int imbalance() {
            int held = cash + flours.value() + breads.value();
            int explained = firstCash + breads.standardProfit() - sumOfAllGaps();
            return Math.abs(held - explained);
        }
    }

    /** The states before the latest changes, in a ring: the oldest one gives way to the newest. */
    private static final class History {
        int count;
        private int next;
        private final State[] states = new State[MAX_CHANGES];

        History() {
            for (int i = 0; i < MAX_CHANGES; i++) {
                states[i] = new State();
            }
        }

        void remember(State state) {
            states[next].copyFrom(state);
            next = (next + 1) % MAX_CHANGES;
            count = Math.min(count + 1, MAX_CHANGES);
        }

        void takeBack(State state) {
            if (count == 0) {
                return;
            }
            next = (next + MAX_CHANGES - 1) % MAX_CHANGES;
            count--;
            state.copyFrom(states[next]);
        }

        void forget() {
            count = 0;
        }
    }

    /** The input buffer, and its tokens behind which one more, the END, stands. */
    private static final class Text {
        static final int END = 0;
        static final int SEMICOLON = 1;
        static final int NUMBER = 2;
        static final int NO_TOKEN = 3;
        static final int OTHER_WORD = 4;
        static final int BAKERY_WORD = 5;
        static final int FLOUR_WORD = 6;
        static final int BREAD_WORD = 7;
        static final int BUY_WORD = 8;
        static final int RATE_WORD = 9;
        static final int BAKE_WORD = 10;
        static final int SELL_WORD = 11;
        static final int WAIT_WORD = 12;
        static final int BURNT_WORD = 13;
        static final int MORE_WORD = 14;
        static final int LESS_WORD = 15;
        static final int LATE_WORD = 16;
        static final int EARLY_WORD = 17;

        /** Greater numbers are read as this one, which is above every range, so that none wraps around. */
        private static final int HUGE = 1000000;

        int length;
        private int tokens;
        private int current;
        private final int[] bytes = new int[MAX_TEXT];
        private final int[] kinds = new int[MAX_TEXT + 1];
        private final int[] starts = new int[MAX_TEXT + 1];
        private final int[] numbers = new int[MAX_TEXT + 1];

        void append(int next) {
            if (length < MAX_TEXT) {
                bytes[length] = next;
                length++;
            }
        }

        void clear() {
            length = 0;
        }

        int kind() {
            return kinds[current];
        }

        int number() {
            return numbers[current];
        }

        int start() {
            return starts[current];
        }

        void advance() {
            if (current < tokens) {
                current++;
            }
        }

        /** Finds all tokens and makes the first one the current one. */
        void split() {
            tokens = 0;
            current = 0;
            int end = 0;
            for (int position = 0; position < length; position++) {
                if (position >= end && !isBlank(bytes[position])) {
                    starts[tokens] = position;
                    end = readToken(position);
                    tokens++;
                }
            }
            kinds[tokens] = END;
            starts[tokens] = length;
        }

        /** Reads the token that starts at a position and returns the position behind it. */
        private int readToken(int start) {
            int first = bytes[start];
            int end = start + 1;
            if (isLetter(first)) {
                while (end < length && isLetter(bytes[end])) {
                    end++;
                }
                kinds[tokens] = wordKind(start, end);
            } else if (isDigit(first)) {
                while (end < length && isDigit(bytes[end])) {
                    end++;
                }
                kinds[tokens] = NUMBER;
                numbers[tokens] = numberOf(start, end);
            } else {
                kinds[tokens] = first == ';' ? SEMICOLON : NO_TOKEN;
            }
            return end;
        }

        private int numberOf(int start, int end) {
            int number = 0;
            for (int i = start; i < end; i++) {
                number = Math.min(number * 10 + bytes[i] - '0', HUGE);
            }
            return number;
        }

        private int wordKind(int start, int end) {
            for (int kind = BAKERY_WORD; kind <= EARLY_WORD; kind++) {
                if (isWord(wordOf(kind), start, end)) {
                    return kind;
                }
            }
            return OTHER_WORD;
        }

        private boolean isWord(String word, int start, int end) {
            boolean same = word.length() == end - start;
            for (int i = 0; same && i < word.length(); i++) {
                same = bytes[start + i] == word.charAt(i);
            }
            return same;
        }

        private static String wordOf(int kind) {
            switch (kind) {
                case BAKERY_WORD: return "bakery";
                case FLOUR_WORD: return "flour";
                case BREAD_WORD: return "bread";
                case BUY_WORD: return "buy";
                case RATE_WORD: return "rate";
                case BAKE_WORD: return "bake";
                case SELL_WORD: return "sell";
                case WAIT_WORD: return "wait";
                case BURNT_WORD: return "burnt";
                case MORE_WORD: return "more";
                case LESS_WORD: return "less";
                case LATE_WORD: return "late";
                case EARLY_WORD: return "early";
                default: return "";
            }
        }

        private static boolean isBlank(int next) {
            return next == ' ' || next == '\n';
        }

        private static boolean isLetter(int next) {
            return next >= 'a' && next <= 'z';
        }

        private static boolean isDigit(int next) {
            return next >= '0' && next <= '9';
        }
    }

    /** Reads a text up to its first error; its commands change a state that is of no use after an error. */
    private static final class Interpreter {
        private static final int SYNTAX_ERROR = 1;
        private static final int RANGE_ERROR = 2;
        private static final int STATE_ERROR = 3;
        private static final int LIMIT_ERROR = 4;

        final Text text = new Text();
        int error;
        int errorAt = NONE;
        int commands;
        private State target;
        private int burnt;
        private int extra;
        private int late;
        private final int[] given = new int[3];

        boolean read(State state, boolean isSetup) {
            target = state;
            text.split();
            error = 0;
            errorAt = NONE;
            commands = 0;
            boolean good = !isSetup || readHead();
            for (int i = 0; i <= MAX_COMMANDS && good && text.kind() != Text.END; i++) {
                good = readCommand();
            }
            return good;
        }

        private boolean fail(int code) {
            error = code;
            errorAt = text.start();
            return false;
        }

        private boolean readHead() {
            if (text.kind() != Text.BAKERY_WORD) {
                return fail(SYNTAX_ERROR);
            }
            text.advance();
            if (!(readNumber(0, 0, MAX_CASH) && readNumber(1, 0, MAX_RATE) && readNumber(2, 1, MAX_OVENS))) {
                return false;
            }
            if (text.kind() != Text.SEMICOLON) {
                return fail(SYNTAX_ERROR);
            }
            target.open(given[0], given[1], given[2]);
            text.advance();
            return true;
        }

        private boolean readCommand() {
            int command = text.kind();
            if (command < Text.FLOUR_WORD || command > Text.WAIT_WORD) {
                return fail(SYNTAX_ERROR);
            }
            if (isBeyondLimit(command)) {
                return fail(LIMIT_ERROR);
            }
            text.advance();
            if (!readNumbers(command) || command == Text.BAKE_WORD && !readExtras(given[1])) {
                return false;
            }
            if (text.kind() != Text.SEMICOLON) {
                return fail(SYNTAX_ERROR);
            }
            if (!execute(command)) {
                return fail(STATE_ERROR);
            }
            text.advance();
            commands++;
            return true;
        }

        private boolean isBeyondLimit(int command) {
            return commands >= MAX_COMMANDS
                    || command == Text.FLOUR_WORD && target.flours.count >= MAX_FLOURS
                    || command == Text.BREAD_WORD && target.breads.count >= MAX_BREADS;
        }

        private boolean readNumbers(int command) {
            int lastFlour = target.flours.count - 1;
            int lastBread = target.breads.count - 1;
            switch (command) {
                case Text.FLOUR_WORD:
                    return readNumber(0, 1, MAX_PRICE);
                case Text.BREAD_WORD:
                    return readNumber(0, 1, MAX_LIST_PRICE) && readNumber(1, 1, MAX_STANDARD_MINUTES)
                            && readNumber(2, 1, target.flours.highestRecipe());
                case Text.BUY_WORD:
                    return readNumber(0, 0, lastFlour) && readNumber(1, 1, MAX_UNITS) && readNumber(2, 1, MAX_PRICE);
                case Text.RATE_WORD:
                    return readNumber(0, 0, HOURS - 1) && readNumber(1, 0, MAX_RATE);
                case Text.BAKE_WORD:
                    return readNumber(0, 0, lastBread) && readNumber(1, 1, MAX_PLANNED);
                case Text.SELL_WORD:
                    return readNumber(0, 0, lastBread) && readNumber(1, 1, MAX_SOLD)
                            && readNumber(2, 1, MAX_LIST_PRICE);
                default:
                    return readNumber(0, 1, MAX_WAIT);
            }
        }

        private boolean readNumber(int place, int low, int high) {
            if (text.kind() != Text.NUMBER) {
                return fail(SYNTAX_ERROR);
            }
            if (text.number() < low || text.number() > high) {
                return fail(RANGE_ERROR);
            }
            given[place] = text.number();
            text.advance();
            return true;
        }

        private boolean readExtras(int loaves) {
            burnt = 0;
            extra = 0;
            late = 0;
            boolean good = true;
            for (int i = 0; i < MAX_TEXT && good && isExtra(text.kind()); i++) {
                int word = text.kind();
                text.advance();
                good = readNumber(2, 0, highestExtra(word, loaves));
                takeExtra(word, given[2]);
            }
            return good;
        }

        private static boolean isExtra(int kind) {
            return kind >= Text.BURNT_WORD && kind <= Text.EARLY_WORD;
        }

        private static int highestExtra(int word, int loaves) {
            if (word == Text.BURNT_WORD) {
                return loaves;
            }
            return word == Text.MORE_WORD || word == Text.LESS_WORD ? MAX_EXTRA : MAX_LATE;
        }

        private void takeExtra(int word, int number) {
            switch (word) {
                case Text.BURNT_WORD:
                    burnt = number;
                    break;
                case Text.MORE_WORD:
                    extra = number;
                    break;
                case Text.LESS_WORD:
                    extra = -number;
                    break;
                case Text.LATE_WORD:
                    late = number;
                    break;
                default:
                    late = -number;
                    break;
            }
        }

        /** Executes a command whose numbers are in range; false if the state does not allow it. */
        private boolean execute(int command) {
            switch (command) {
                case Text.FLOUR_WORD:
                    target.flours.create(given[0]);
                    return true;
                case Text.BREAD_WORD:
                    target.createBread(given[0], given[1], given[2]);
                    return true;
                case Text.BUY_WORD:
                    return target.buyLot(given[0], given[1], given[2]);
                case Text.RATE_WORD:
                    target.ovens.rates[given[0]] = given[1];
                    return true;
                case Text.BAKE_WORD:
                    return target.bakeBatch(given[0], given[1], burnt, extra, late) != NONE;
                case Text.SELL_WORD:
                    return target.sellLoaves(given[0], given[1], given[2]);
                default:
                    target.clock += given[0];
                    return true;
            }
        }
    }
}
