import java.util.ArrayDeque;
import java.util.ArrayList;
import java.util.Deque;
import java.util.List;
import java.util.NoSuchElementException;
import java.util.regex.Matcher;
import java.util.regex.Pattern;

/**
 * A second bakery, made to be compared with the first: it keeps a record of all that happened, unit
 * by unit and minute by minute, and computes each answer from the records.
 */
final class Model {
    private static final class Batch {
        int bread;
        int planned;
        int burnt;
        int extra;
        int late;
        int start;
        /** For each unit: its flour and what was paid for it. */
        final List<int[]> units = new ArrayList<>();
        /** For each minute: its rate. */
        final List<Integer> rates = new ArrayList<>();
    }

    private static final class Bread {
        int price;
        int minutes;
        final int[] amounts = new int[6];
    }

    /** The records; what stands in them never changes, so that a copy may share it. */
    private static final class Books {
        int clock;
        int setupCash;
        int standardRate;
        int[] rates = new int[24];
        int[] free = new int[1];
        List<Integer> prices = new ArrayList<>();
        List<Bread> breads = new ArrayList<>();
        List<Batch> batches = new ArrayList<>();
        List<int[]> sales = new ArrayList<>();
        List<int[]> purchases = new ArrayList<>();

        Books copy() {
            Books copy = new Books();
            copy.clock = clock;
            copy.setupCash = setupCash;
            copy.standardRate = standardRate;
            copy.rates = rates.clone();
            copy.free = free.clone();
            copy.prices = new ArrayList<>(prices);
            copy.breads = new ArrayList<>(breads);
            copy.batches = new ArrayList<>(batches);
            copy.sales = new ArrayList<>(sales);
            copy.purchases = new ArrayList<>(purchases);
            return copy;
        }
    }

    /** An error in a text. */
    private static final class Wrong extends Exception {
        private static final long serialVersionUID = 1;
        final int code;
        final int position;

        Wrong(int code, int position) {
            this.code = code;
            this.position = position;
        }
    }

    private record Token(String text, int position) {
    }

    private Books books = new Books();
    private final Deque<Books> changes = new ArrayDeque<>();
    private final Books[] saved = new Books[2];
    private final StringBuilder input = new StringBuilder();
    private String output = "";
    private int error;
    private int errorAt = -1;
    private Deque<Token> tokens;
    private int executed;

    Model() {
        input.append("bakery 2000 2 2; flour 10; flour 25; bread 150 3 4; bread 240 5 23; buy 0 40 11; buy 0 30 9; "
                + "buy 1 20 28; rate 1 4; bake 0 6 burnt 1 more 2; wait 50; bake 1 4 late 3; sell 0 3 140;");
        loadSetup();
    }

    public int feed(int a, int b, int c, int d, int e) {
        StringBuilder more = new StringBuilder();
        for (int word : new int[] {a, b, c, d, e}) {
            for (int i = 3; i >= 0; i--) {
                char next = (char) (word >> 8 * i & 0xff);
                if (next != 0) {
                    more.append(next);
                }
            }
        }
        if (input.length() + more.length() > 700) {
            return -1;
        }
        return input.append(more).length();
    }

    public int loadSetup() {
        Books before = books;
        books = new Books();
        if (!read(true)) {
            books = before;
            return -1;
        }
        changes.clear();
        saved[0] = null;
        saved[1] = null;
        return books.batches.size();
    }

    public int runScript() {
        Books before = books;
        books = before.copy();
        if (!read(false)) {
            books = before;
            return -1;
        }
        remember(before);
        return executed;
    }

    private boolean read(boolean isSetup) {
        List<Books> kept = new ArrayList<>(changes);
        error = 0;
        errorAt = -1;
        executed = 0;
        try {
            split();
            if (isSetup) {
                readHead();
            }
            while (!tokens.peek().text.isEmpty()) {
                readCommand();
            }
        } catch (Wrong e) {
            error = e.code;
            errorAt = e.position;
        }
        changes.clear();
        changes.addAll(kept);
        input.setLength(0);
        return error == 0;
    }

    private void split() {
        tokens = new ArrayDeque<>();
        Matcher matcher = Pattern.compile("[a-z]+|[0-9]+|[^ \n]").matcher(input);
        while (matcher.find()) {
            tokens.add(new Token(matcher.group(), matcher.start()));
        }
        tokens.add(new Token("", input.length()));
    }

    private long number(long low, long high) throws Wrong {
        Token token = tokens.peek();
        if (!token.text.matches("[0-9]+")) {
            throw new Wrong(1, token.position);
        }
        java.math.BigInteger value = new java.math.BigInteger(token.text);
        if (value.compareTo(java.math.BigInteger.valueOf(low)) < 0 || value.compareTo(java.math.BigInteger.valueOf(high)) > 0) {
            throw new Wrong(2, token.position);
        }
        tokens.poll();
        return value.longValue();
    }

    private int small(long low, long high) throws Wrong {
        return (int) number(low, high);
    }

    private void word(String due) throws Wrong {
        if (!tokens.peek().text.equals(due)) {
            throw new Wrong(1, tokens.peek().position);
        }
        tokens.poll();
    }

    private void readHead() throws Wrong {
        word("bakery");
        books.setupCash = small(0, 99999);
        books.standardRate = small(0, 20);
        books.free = new int[small(1, 3)];
        java.util.Arrays.fill(books.rates, books.standardRate);
        word(";");
    }

    private void readCommand() throws Wrong {
        Token first = tokens.peek();
        if (!List.of("flour", "bread", "buy", "rate", "bake", "sell", "wait").contains(first.text)) {
            throw new Wrong(1, first.position);
        }
        if (executed == 40 || first.text.equals("flour") && books.prices.size() == 6
                || first.text.equals("bread") && books.breads.size() == 6) {
            throw new Wrong(4, first.position);
        }
        tokens.poll();
        Runnable command = parsed(first.text);
        int end = tokens.peek().position;
        word(";");
        try {
            command.run();
        } catch (IllegalStateException e) {
            throw new Wrong(3, end);
        }
        executed++;
    }

    private Runnable parsed(String command) throws Wrong {
        int flours = books.prices.size();
        int breads = books.breads.size();
        switch (command) {
            case "flour": {
                int price = small(1, 99);
                return () -> addFlour(price);
            }
            case "bread": {
                int price = small(1, 999);
                int minutes = small(1, 9);
                Token recipe = tokens.peek();
                int number = small(1, 999999);
                if (Integer.toString(number).length() > flours) {
                    throw new Wrong(2, recipe.position);
                }
                return () -> addBread(price, minutes, number);
            }
            case "buy": {
                int flour = small(0, flours - 1);
                int units = small(1, 99);
                int price = small(1, 99);
                return () -> buy(flour, units, price);
            }
            case "rate": {
                int hour = small(0, 23);
                int rate = small(0, 20);
                return () -> setRate(hour, rate);
            }
            case "sell": {
                int bread = small(0, breads - 1);
                int loaves = small(1, 99);
                int price = small(1, 999);
                return () -> sell(bread, loaves, price);
            }
            case "wait": {
                int minutes = small(1, 999);
                return () -> waitMinutes(minutes);
            }
            default:
                return parsedBake(small(0, breads - 1), small(1, 20));
        }
    }

    private Runnable parsedBake(int bread, int loaves) throws Wrong {
        int[] extras = new int[3];
        while (tokens.peek().text.matches("burnt|more|less|late|early")) {
            String word = tokens.poll().text;
            int number = small(0, word.equals("burnt") ? loaves : 9);
            int place = word.equals("burnt") ? 0 : word.equals("more") || word.equals("less") ? 1 : 2;
            extras[place] = word.equals("less") || word.equals("early") ? -number : number;
        }
        return () -> bake(bread, loaves, extras[0], extras[1], extras[2]);
    }

    private void remember(Books before) {
        changes.push(before);
        if (changes.size() > 8) {
            changes.removeLast();
        }
    }

    private void change() {
        remember(books);
        books = books.copy();
    }

    private static void index(int index, int size) {
        if (index < 0 || index >= size) {
            throw new IndexOutOfBoundsException();
        }
    }

    private static void range(int value, int low, int high) {
        if (value < low || value > high) {
            throw new IllegalArgumentException();
        }
    }

    private static void state(boolean good) {
        if (!good) {
            throw new IllegalStateException();
        }
    }

    public int errorCode() {
        return error;
    }

    public int errorPosition() {
        return errorAt;
    }

    public int clock() {
        return books.clock;
    }

    public int cash() {
        return books.setupCash - spentOnFlour() - spentOnOvens() + income();
    }

    public int undoCount() {
        return changes.size();
    }

    public int flourCount() {
        return books.prices.size();
    }

    public int flourPrice(int flour) {
        index(flour, flourCount());
        return books.prices.get(flour);
    }

    /** The lots that are left when the units of all batches are taken from all that was bought. */
    private List<int[]> lots(int flour) {
        long used = books.batches.stream().flatMap(batch -> batch.units.stream()).filter(unit -> unit[0] == flour).count();
        List<int[]> left = new ArrayList<>();
        for (int[] purchase : books.purchases) {
            if (purchase[0] == flour) {
                long taken = Math.min(used, purchase[1]);
                used -= taken;
                if (taken < purchase[1]) {
                    left.add(new int[] {purchase[1] - (int) taken, purchase[2]});
                }
            }
        }
        return left;
    }

    public int unitsOf(int flour) {
        index(flour, flourCount());
        return lots(flour).stream().mapToInt(lot -> lot[0]).sum();
    }

    public int lotsOf(int flour) {
        index(flour, flourCount());
        return lots(flour).size();
    }

    public int lotUnits(int flour, int lot) {
        index(flour, flourCount());
        index(lot, lotsOf(flour));
        return lots(flour).get(lot)[0];
    }

    public int lotPrice(int flour, int lot) {
        index(flour, flourCount());
        index(lot, lotsOf(flour));
        return lots(flour).get(lot)[1];
    }

    public int breadCount() {
        return books.breads.size();
    }

    private Bread bread(int bread) {
        index(bread, breadCount());
        return books.breads.get(bread);
    }

    public int listPrice(int bread) {
        return bread(bread).price;
    }

    public int minutesOf(int bread) {
        return bread(bread).minutes;
    }

    public int amountOf(int bread, int flour) {
        index(bread, breadCount());
        index(flour, flourCount());
        return bread(bread).amounts[flour];
    }

    public int standardCost(int bread) {
        int sum = bread(bread).minutes * books.standardRate;
        for (int flour = 0; flour < flourCount(); flour++) {
            sum += bread(bread).amounts[flour] * flourPrice(flour);
        }
        return sum;
    }

    public int loavesOf(int bread) {
        index(bread, breadCount());
        int baked = books.batches.stream().filter(batch -> batch.bread == bread).mapToInt(batch -> batch.planned - batch.burnt).sum();
        return baked - books.sales.stream().filter(sale -> sale[0] == bread).mapToInt(sale -> sale[1]).sum();
    }

    public int ovenCount() {
        return books.free.length;
    }

    public int freeAt(int oven) {
        index(oven, ovenCount());
        return books.free[oven];
    }

    public int nextOven() {
        int least = java.util.Arrays.stream(books.free).min().getAsInt();
        for (int oven = 0;; oven++) {
            if (books.free[oven] == least) {
                return oven;
            }
        }
    }

    public int rateAt(int hour) {
        range(hour, 0, 23);
        return books.rates[hour];
    }

    public int standardRate() {
        return books.standardRate;
    }

    public int batchCount() {
        return books.batches.size();
    }

    private Batch batch(int batch) {
        index(batch, batchCount());
        return books.batches.get(batch);
    }

    public int batchBread(int batch) {
        return batch(batch).bread;
    }

    public int goodLoaves(int batch) {
        return batch(batch).planned - batch(batch).burnt;
    }

    public int startOf(int batch) {
        return batch(batch).start;
    }

    public int ovenMinutes(int batch) {
        return batch(batch).rates.size();
    }

    public int costOf(int batch) {
        return cost(batch(batch));
    }

    private static int cost(Batch batch) {
        return batch.units.stream().mapToInt(unit -> unit[1]).sum() + batch.rates.stream().mapToInt(rate -> rate).sum();
    }

    public int lossOf(int batch) {
        return loss(batch(batch));
    }

    private int loss(Batch batch) {
        return cost(batch) - (batch.planned - batch.burnt) * standardCost(batch.bread);
    }

    public int gapOf(int batch, int kind) {
        index(batch, batchCount());
        range(kind, 0, 4);
        return gap(batch(batch), kind);
    }

    private int gap(Batch batch, int kind) {
        switch (kind) {
            case 0:
                return batch.units.stream().mapToInt(unit -> unit[1] - flourPrice(unit[0])).sum();
            case 1:
                int sum = 0;
                for (int flour = 0; flour < flourCount(); flour++) {
                    sum += useGap(batch, flour);
                }
                return sum;
            case 2:
                return batch.rates.stream().mapToInt(rate -> rate - books.standardRate).sum();
            case 3:
                return (batch.rates.size() - minutesOf(batch.bread) * batch.planned) * books.standardRate;
            default:
                return batch.burnt * standardCost(batch.bread);
        }
    }

    private int useGap(Batch batch, int flour) {
        int used = (int) batch.units.stream().filter(unit -> unit[0] == flour).count();
        return (used - amountOf(batch.bread, flour) * batch.planned) * flourPrice(flour);
    }

    public int kindAt(int batch, int place) {
        index(batch, batchCount());
        List<Integer> kinds = new ArrayList<>(List.of(0, 1, 2, 3, 4));
        kinds.sort((a, b) -> Integer.compare(gapOf(batch, b), gapOf(batch, a)));
        return place < 0 || place > 4 ? -1 : kinds.get(place);
    }

    public int gapSum(int kind) {
        range(kind, 0, 5);
        if (kind == 5) {
            return books.sales.stream().mapToInt(sale -> sale[1] * (listPrice(sale[0]) - sale[2])).sum();
        }
        return books.batches.stream().mapToInt(batch -> gap(batch, kind)).sum();
    }

    public int priceGap(int flour) {
        index(flour, flourCount());
        return books.batches.stream().flatMap(batch -> batch.units.stream()).filter(unit -> unit[0] == flour)
                .mapToInt(unit -> unit[1] - flourPrice(flour)).sum();
    }

    public int useGap(int flour) {
        index(flour, flourCount());
        return books.batches.stream().mapToInt(batch -> useGap(batch, flour)).sum();
    }

    public int totalLoss() {
        return books.batches.stream().mapToInt(this::loss).sum() + gapSum(5);
    }

    public int worstBatch() {
        int greatest = books.batches.stream().mapToInt(this::loss).max().orElse(0);
        for (int batch = 0; batch < batchCount(); batch++) {
            if (lossOf(batch) == greatest) {
                return batch;
            }
        }
        return -1;
    }

    public int worstKind() {
        List<Integer> kinds = new ArrayList<>(List.of(0, 1, 2, 3, 4, 5));
        kinds.sort((a, b) -> Integer.compare(gapSum(b), gapSum(a)));
        return kinds.get(0);
    }

    public int bakeObstacle(int bread, int loaves, int extra, int late) {
        index(bread, breadCount());
        range(loaves, 1, 20);
        range(extra, -9, 9);
        range(late, -9, 9);
        if (batchCount() == 24) {
            return 1;
        }
        int[] needed = needed(bread, loaves, extra);
        for (int units : needed) {
            if (units < 0) {
                return 2;
            }
        }
        if (minutesOf(bread) * loaves + late < 1) {
            return 2;
        }
        for (int flour = 0; flour < flourCount(); flour++) {
            if (needed[flour] > unitsOf(flour)) {
                return 3;
            }
        }
        return 0;
    }

    private int[] needed(int bread, int loaves, int extra) {
        int[] needed = new int[6];
        boolean isMain = true;
        for (int flour = 0; flour < 6; flour++) {
            int amount = bread(bread).amounts[flour];
            needed[flour] = amount * loaves;
            if (amount > 0 && isMain) {
                needed[flour] += extra;
                isMain = false;
            }
        }
        return needed;
    }

    private Batch planned(int bread, int loaves, int burnt, int extra, int late) {
        Batch batch = new Batch();
        batch.bread = bread;
        batch.planned = loaves;
        batch.burnt = burnt;
        batch.extra = extra;
        batch.late = late;
        int[] needed = needed(bread, loaves, extra);
        for (int flour = 0; flour < flourCount(); flour++) {
            for (int[] lot : lots(flour)) {
                for (int unit = 0; unit < lot[0] && needed[flour] > 0; unit++) {
                    batch.units.add(new int[] {flour, lot[1]});
                    needed[flour]--;
                }
            }
        }
        batch.start = Math.max(books.clock, freeAt(nextOven()));
        batch.rates.addAll(rates(batch.start, minutesOf(bread) * loaves + late));
        return batch;
    }

    private List<Integer> rates(int start, int minutes) {
        List<Integer> rates = new ArrayList<>();
        for (int minute = start; minute < start + minutes; minute++) {
            rates.add(books.rates[minute % 1440 / 60]);
        }
        return rates;
    }

    public int lossIfBaked(int bread, int loaves) {
        state(bakeObstacle(bread, loaves, 0, 0) == 0);
        return loss(planned(bread, loaves, 0, 0, 0));
    }

    public int possibleLoaves(int bread) {
        index(bread, breadCount());
        int loaves = 20;
        while (loaves > 0 && bakeObstacle(bread, loaves, 0, 0) != 0) {
            loaves--;
        }
        return loaves;
    }

    public int bestWait(int bread, int loaves) {
        index(bread, breadCount());
        range(loaves, 1, 20);
        int best = -1;
        int least = Integer.MAX_VALUE;
        for (int hours = 0; hours < 24; hours++) {
            int start = Math.max(books.clock + 60 * hours, freeAt(nextOven()));
            int cost = rates(start, minutesOf(bread) * loaves).stream().mapToInt(rate -> rate).sum();
            if (cost < least) {
                least = cost;
                best = hours;
            }
        }
        return best;
    }

    public int income() {
        return books.sales.stream().mapToInt(sale -> sale[1] * sale[2]).sum();
    }

    public int spentOnFlour() {
        return books.purchases.stream().mapToInt(purchase -> purchase[1] * purchase[2]).sum();
    }

    public int spentOnOvens() {
        return books.batches.stream().flatMap(batch -> batch.rates.stream()).mapToInt(rate -> rate).sum();
    }

    public int flourValue() {
        int sum = 0;
        for (int flour = 0; flour < flourCount(); flour++) {
            sum += lots(flour).stream().mapToInt(lot -> lot[0] * lot[1]).sum();
        }
        return sum;
    }

    public int loafValue() {
        int sum = 0;
        for (int bread = 0; bread < breadCount(); bread++) {
            sum += loavesOf(bread) * standardCost(bread);
        }
        return sum;
    }

    public int consistencyError() {
        return 0;
    }

    public double meanLoss() {
        int sum = books.batches.stream().mapToInt(this::loss).sum();
        return books.batches.isEmpty() ? 0.0 : (double) sum / batchCount();
    }

    public float burntShare() {
        int burnt = books.batches.stream().mapToInt(batch -> batch.burnt).sum();
        int planned = books.batches.stream().mapToInt(batch -> batch.planned).sum();
        return books.batches.isEmpty() ? 0.0f : (float) burnt / planned;
    }

    public int addFlour(int price) {
        range(price, 1, 99);
        state(flourCount() < 6);
        change();
        books.prices.add(price);
        return flourCount() - 1;
    }

    public int addBread(int price, int minutes, int recipe) {
        range(price, 1, 999);
        range(minutes, 1, 9);
        range(recipe, 1, 999999);
        String digits = new StringBuilder(Integer.toString(recipe)).reverse().toString();
        range(digits.length(), 1, flourCount());
        state(breadCount() < 6);
        change();
        Bread bread = new Bread();
        bread.price = price;
        bread.minutes = minutes;
        for (int flour = 0; flour < digits.length(); flour++) {
            bread.amounts[flour] = digits.charAt(flour) - '0';
        }
        books.breads.add(bread);
        return breadCount() - 1;
    }

    public int buy(int flour, int units, int price) {
        index(flour, flourCount());
        range(units, 1, 99);
        range(price, 1, 99);
        state(cash() >= units * price && lotsOf(flour) < 12);
        change();
        books.purchases.add(new int[] {flour, units, price});
        return cash();
    }

    public int setRate(int hour, int rate) {
        range(hour, 0, 23);
        range(rate, 0, 20);
        change();
        int previous = books.rates[hour];
        books.rates[hour] = rate;
        return previous;
    }

    public int bake(int bread, int loaves, int burnt, int extra, int late) {
        index(bread, breadCount());
        range(loaves, 1, 20);
        range(burnt, 0, loaves);
        state(bakeObstacle(bread, loaves, extra, late) == 0);
        change();
        Batch batch = planned(bread, loaves, burnt, extra, late);
        books.free[nextOven()] = batch.start + batch.rates.size();
        books.batches.add(batch);
        return batchCount() - 1;
    }

    public int sell(int bread, int loaves, int price) {
        index(bread, breadCount());
        range(loaves, 1, 99);
        range(price, 1, 999);
        state(loavesOf(bread) >= loaves);
        change();
        books.sales.add(new int[] {bread, loaves, price});
        return cash();
    }

    public int waitMinutes(int minutes) {
        range(minutes, 1, 999);
        change();
        books.clock += minutes;
        return books.clock;
    }

    public int undo() {
        state(!changes.isEmpty());
        books = changes.pop();
        return changes.size();
    }

    public int save(int slot) {
        range(slot, 0, 1);
        saved[slot] = books.copy();
        return cash();
    }

    public int restore(int slot) {
        range(slot, 0, 1);
        if (saved[slot] == null) {
            throw new NoSuchElementException();
        }
        books = saved[slot].copy();
        changes.clear();
        return cash();
    }

    public int writeBatch(int batch) {
        index(batch, batchCount());
        List<String> parts = new ArrayList<>();
        for (int kind = 0; kind < 5; kind++) {
            if (gapOf(batch, kind) != 0) {
                parts.add("purtb".substring(kind, kind + 1) + gapOf(batch, kind));
            }
        }
        output = String.join(" ", parts);
        return output.length();
    }

    public int outputByte(int index) {
        return index < 0 || index >= output.length() ? -1 : output.charAt(index);
    }
}
