/**
 * A steel coil yard: coils in stacks, orders that coils are slit for, rests, scrap, coils as texts,
 * what would be, and undo. ../shared/DOC.md says what each method promises.
 */
public final class CoilSlits {
    public static final int NONE = -1;

    private static final int STACKS = 6;
    private static final int HIGH = 5;
    private static final int PLACES = STACKS * HIGH;
    private static final int MOST_WIDTH = 200;
    private static final int MOST_GRADE = 3;
    private static final int MOST_QUALITY = 9;
    private static final int USUAL_QUALITY = 5;

    private static final int MOST_ORDERS = 8;
    private static final int LEAST_STRIP = 2;
    private static final int MOST_STRIP = 100;
    private static final int MOST_STILL = 40;
    private static final int MOST_PRICE = 99;

    private static final int MOST_SAVED = 6;
    private static final int MOST_LETTERS = 60;
    private static final int LEAST_LETTER = 33;
    private static final int MOST_LETTER = 126;

    // The columns of a coil. The first three are numbered as the document numbers its properties.
    private static final int WIDTH = 0;
    private static final int GRADE = 1;
    private static final int QUALITY = 2;
    private static final int IS_REST = 3;
    private static final int NUMBER = 4;
    private static final int COIL_COLUMNS = 5;

    // The other properties of a coil, and how many there are.
    private static final int OWN_STACK = 3;
    private static final int COILS_ABOVE = 4;
    private static final int BEING_REST = 5;
    private static final int COIL_PROPERTIES = 6;

    // The columns of an order, numbered as the document numbers its properties.
    private static final int ORDER_NUMBER = 0;
    private static final int ORDER_GRADE = 1;
    private static final int ORDER_QUALITY = 2;
    private static final int STRIP_WIDTH = 3;
    private static final int STILL = 4;
    private static final int PRICE = 5;
    private static final int ORDER_COLUMNS = 6;

    // The other properties of an order, and how many there are.
    private static final int COILS_SUITING = 6;
    private static final int STRIPS_FITTING = 7;
    private static final int ORDER_PROPERTIES = 8;

    // What is counted; those that are kept as tallies stand between ORDERS and SAVED_STATES.
    private static final int COILS = 0;
    private static final int COIL_WIDTHS = 1;
    private static final int RESTS = 2;
    private static final int ORDERS = 3;
    private static final int MOVES = 4;
    private static final int WAYS = 5;
    private static final int STRIPS = 6;
    private static final int STRIP_WIDTHS = 7;
    private static final int LOST = 8;
    private static final int SCRAP = 9;
    private static final int PRICES = 10;
    private static final int RECEIVED = 11;
    private static final int SENT_AWAY = 12;
    private static final int SAVED_STATES = 13;
    private static final int COUNTS = 14;

    private static final int LEAST_REST = 0;
    private static final int LOSS = 1;
    private static final int QUALITY_LOSS = 2;
    private static final int RULE = 3;
    private static final int SETTINGS = 4;
    private static final int[] FIRST_SETTINGS = {20, 1, 1, 0};
    private static final int[] LEAST_SETTINGS = {1, 0, 0, 0};
    private static final int[] MOST_SETTINGS = {100, 5, 9, 2};

    private static final int BY_REST = 0;
    private static final int BY_ABOVE = 1;
    private static final int RULES = 3;
    private static final int RULES_IN_DIGEST = 2;
    private static final int GAINS = 4;

    // Why a coil does not suit.
    private static final int SUITS = 0;
    private static final int ANOTHER_GRADE = 1;
    private static final int TOO_LITTLE_QUALITY = 2;
    private static final int NO_STRIP_FITS = 3;
    private static final int CANNOT_BE_DUG = 4;

    // As often a share can be doubled at most before it is 1, if it is no subnormal double.
    private static final int MOST_DOUBLINGS = 1022;

    private final Yard yard = new Yard();
    // What would be is done in here, so that the yard itself stays as it is.
    private final Yard trial = new Yard();
    private final History history = new History();
    private final Row buffer = new Row(MOST_LETTERS);
    private final CoilReader reader = new CoilReader();
    private int length;

    public CoilSlits() {
    }

    // ---- coils

    public int receive(int width, int grade, int quality, int stack)
            throws IndexOutOfBoundsException, IllegalArgumentException, IllegalStateException {
        if (!isStack(stack)) {
            throw new IndexOutOfBoundsException("no such stack");
        }
        if (!within(width, 1, MOST_WIDTH) || !within(grade, 0, MOST_GRADE)
                || !within(quality, 0, MOST_QUALITY)) {
            throw new IllegalArgumentException("width, grade or quality out of range");
        }
        if (!yard.hasRoom(stack)) {
            throw new IllegalStateException("no room in the stack");
        }
        history.save(yard);
        return yard.bringIn(stack, width, grade, quality);
    }

    public int move(int stack, int to)
            throws IndexOutOfBoundsException, IllegalArgumentException, IllegalStateException {
        if (!isStack(stack) || !isStack(to)) {
            throw new IndexOutOfBoundsException("no such stack");
        }
        if (stack == to) {
            throw new IllegalArgumentException("both stacks are the same");
        }
        if (yard.heightOf(stack) == 0 || !yard.hasRoom(to)) {
            throw new IllegalStateException("no coil to move, or no room for it");
        }
        history.save(yard);
        return yard.moveTop(stack, to);
    }

    public int dig(int coil) throws IndexOutOfBoundsException, IllegalStateException {
        int place = yard.placeOf(coil);
        if (place == NONE) {
            throw new IndexOutOfBoundsException("no such coil in the yard");
        }
        if (!yard.canDig(place)) {
            throw new IllegalStateException("the coil cannot be dug out");
        }
        history.save(yard);
        return yard.digOut(place);
    }

    public int sendAway(int coil) throws IndexOutOfBoundsException, IllegalStateException {
        int place = yard.placeOf(coil);
        if (place == NONE) {
            throw new IndexOutOfBoundsException("no such coil in the yard");
        }
        if (!yard.canDig(place)) {
            throw new IllegalStateException("the coil cannot be dug out");
        }
        history.save(yard);
        yard.digOut(place);
        return yard.sendTop(stackOf(place));
    }

    // ---- orders

    public int order(int grade, int quality, int width, int strips, int price)
            throws IllegalArgumentException, IllegalStateException {
        if (!within(grade, 0, MOST_GRADE) || !within(quality, 0, MOST_QUALITY)
                || !within(width, LEAST_STRIP, MOST_STRIP) || !within(strips, 1, MOST_STILL)
                || !within(price, 1, MOST_PRICE)) {
            throw new IllegalArgumentException("an argument is out of range");
        }
        if (yard.orderCount() >= MOST_ORDERS) {
            throw new IllegalStateException("no more orders can be taken");
        }
        history.save(yard);
        return yard.takeOrder(grade, quality, width, strips, price);
    }

    public int cancel(int number) throws IndexOutOfBoundsException {
        int order = yard.indexOfOrder(number);
        if (order == NONE) {
            throw new IndexOutOfBoundsException("no such order");
        }
        history.save(yard);
        int still = yard.orderColumn(order, STILL);
        yard.dropOrder(order);
        return still;
    }

    public int slit(int number, int coil) throws IndexOutOfBoundsException, IllegalStateException {
        int order = yard.indexOfOrder(number);
        int place = yard.placeOf(coil);
        if (order == NONE || place == NONE) {
            throw new IndexOutOfBoundsException("no such order, or no such coil in the yard");
        }
        if (yard.reasonAgainst(order, place) != SUITS) {
            throw new IllegalStateException("the coil does not suit, or cannot be dug out");
        }
        history.save(yard);
        yard.digOut(place);
        int strips = yard.cutTop(order, stackOf(place));
        yard.dropIfDone(order);
        return strips;
    }

    public int serve(int number) throws IndexOutOfBoundsException {
        int order = yard.indexOfOrder(number);
        if (order == NONE) {
            throw new IndexOutOfBoundsException("no such order");
        }
        history.save(yard);
        return yard.fulfil(order);
    }

    public int serveAll() {
        history.save(yard);
        return yard.fulfilEach();
    }

    public int set(int setting, int value) throws IndexOutOfBoundsException, IllegalArgumentException {
        if (!isSetting(setting)) {
            throw new IndexOutOfBoundsException("no such setting");
        }
        if (!within(value, LEAST_SETTINGS[setting], MOST_SETTINGS[setting])) {
            throw new IllegalArgumentException("the value is out of range");
        }
        history.save(yard);
        int previous = yard.settingNow(setting);
        yard.changeSetting(setting, value);
        return previous;
    }

    // ---- texts

    public int append(int code) throws IllegalArgumentException, IllegalStateException {
        if (!within(code, LEAST_LETTER, MOST_LETTER)) {
            throw new IllegalArgumentException("the character code is out of range");
        }
        if (length >= MOST_LETTERS) {
            throw new IllegalStateException("the buffer is full");
        }
        buffer.put(length, code);
        length++;
        return length;
    }

    public int clearBuffer() {
        int previous = length;
        length = 0;
        return previous;
    }

    public int firstError() {
        return readBuffer();
    }

    public int receiveAll() throws IllegalArgumentException {
        if (readBuffer() < length || !reader.isComplete()) {
            throw new IllegalArgumentException("the buffer is not complete coils as a text");
        }
        history.save(yard);
        int received = bringInBuffer();
        length = 0;
        return received;
    }

    public int undo() throws IllegalStateException {
        if (history.kept() == 0) {
            throw new IllegalStateException("no state is saved");
        }
        history.restore(yard);
        return history.kept();
    }

    // ---- looks; nothing is changed

    public int at(int stack, int height) throws IndexOutOfBoundsException, IllegalArgumentException {
        if (!isStack(stack)) {
            throw new IndexOutOfBoundsException("no such stack");
        }
        if (!within(height, 0, HIGH - 1)) {
            throw new IllegalArgumentException("the height is out of range");
        }
        return yard.numberAt(stack * HIGH + height);
    }

    public int coil(int coil, int what) throws IndexOutOfBoundsException, IllegalArgumentException {
        if (!yard.hasSeen(coil)) {
            throw new IndexOutOfBoundsException("no coil has had this number");
        }
        if (!within(what, 0, COIL_PROPERTIES - 1)) {
            throw new IllegalArgumentException("no such property of a coil");
        }
        int place = yard.placeOf(coil);
        return place == NONE ? NONE : yard.coilProperty(place, what);
    }

    public int orderOf(int place, int what) throws IllegalArgumentException {
        if (place < 0 || !within(what, 0, ORDER_PROPERTIES - 1)) {
            throw new IllegalArgumentException("no such place, or no such property of an order");
        }
        return place < yard.orderCount() ? yard.orderProperty(place, what) : NONE;
    }

    public int whyNot(int number, int coil) throws IndexOutOfBoundsException {
        int order = yard.indexOfOrder(number);
        int place = yard.placeOf(coil);
        if (order == NONE || place == NONE) {
            throw new IndexOutOfBoundsException("no such order, or no such coil in the yard");
        }
        return yard.reasonAgainst(order, place);
    }

    public int count(int what) throws IllegalArgumentException {
        if (!within(what, 0, COUNTS - 1)) {
            throw new IllegalArgumentException("nothing of this kind is counted");
        }
        return counted(what);
    }

    public int setting(int setting) throws IndexOutOfBoundsException {
        if (!isSetting(setting)) {
            throw new IndexOutOfBoundsException("no such setting");
        }
        return yard.settingNow(setting);
    }

    // ---- what would be; nothing is changed

    public int choice(int number) throws IndexOutOfBoundsException {
        int order = yard.indexOfOrder(number);
        if (order == NONE) {
            throw new IndexOutOfBoundsException("no such order");
        }
        return numberOfChoice(order);
    }

    public int ifServed(int number, int rule, int what)
            throws IndexOutOfBoundsException, IllegalArgumentException {
        int order = yard.indexOfOrder(number);
        if (order == NONE) {
            throw new IndexOutOfBoundsException("no such order");
        }
        if (!within(rule, 0, RULES - 1) || !within(what, 0, GAINS - 1)) {
            throw new IllegalArgumentException("rule or what is out of range");
        }
        beginTrial(rule);
        trial.fulfil(order);
        return gainOfTrial(what);
    }

    public int bestRule() {
        int best = 0;
        int bestPrices = 0;
        int bestScrap = 0;
        int bestWays = 0;
        for (int rule = 0; rule < RULES; rule++) {
            beginTrial(rule);
            trial.fulfilEach();
            int prices = trial.tally(PRICES);
            int scrap = trial.tally(SCRAP);
            int ways = trial.tally(WAYS);
            boolean betterIfAsDear = scrap < bestScrap || scrap == bestScrap && ways < bestWays;
            if (rule == 0 || prices > bestPrices || prices == bestPrices && betterIfAsDear) {
                best = rule;
                bestPrices = prices;
                bestScrap = scrap;
                bestWays = ways;
            }
        }
        return best;
    }

    public int bestStack() {
        int best = NONE;
        int bestWider = 0;
        for (int stack = 0; stack < STACKS; stack++) {
            int wider = yard.widerThanTop(stack);
            boolean lower = yard.heightOf(stack) < yard.heightOf(best);
            boolean better = best == NONE || wider < bestWider || wider == bestWider && lower;
            if (yard.hasRoom(stack) && better) {
                best = stack;
                bestWider = wider;
            }
        }
        return best;
    }

    public double used() {
        int strips = yard.tally(STRIP_WIDTHS);
        int sum = strips + yard.tally(LOST) + yard.tally(SCRAP);
        return sum == 0 ? 1.0 : (double) strips / (double) sum;
    }

    public long digest() {
        long hash = 2879L;
        for (int what = 0; what < COUNTS; what++) {
            hash = hashed(hash, counted(what));
        }
        for (int setting = 0; setting < SETTINGS; setting++) {
            hash = hashed(hash, yard.settingNow(setting));
        }
        for (int place = 0; place < PLACES; place++) {
            hash = hashedPlace(hash, place);
        }
        for (int order = 0; order < yard.orderCount(); order++) {
            hash = hashedOrder(hash, order);
        }
        hash = hashed(hash, bestRule());
        hash = hashed(hash, bestStack());
        hash = hashed(hash, bitsOf(used()));
        hash = hashed(hash, length);
        for (int i = 0; i < length; i++) {
            hash = hashed(hash, buffer.get(i));
        }
        return hash;
    }

    private static boolean within(int value, int least, int most) {
        return value >= least && value <= most;
    }

    private static boolean isStack(int stack) {
        return within(stack, 0, STACKS - 1);
    }

    private static boolean isSetting(int setting) {
        return within(setting, 0, SETTINGS - 1);
    }

    private static int stackOf(int place) {
        return place / HIGH;
    }

    private int counted(int what) {
        switch (what) {
            case COILS:
                return yard.coilCount();
            case COIL_WIDTHS:
                return yard.sumOfCoils(WIDTH);
            case RESTS:
                return yard.sumOfCoils(IS_REST);
            case ORDERS:
                return yard.orderCount();
            case SAVED_STATES:
                return history.kept();
            default:
                return yard.tally(what);
        }
    }

    private int numberOfChoice(int order) {
        int place = yard.choose(order);
        return place == NONE ? NONE : yard.numberAt(place);
    }

    private void beginTrial(int rule) {
        trial.copyFrom(yard);
        trial.changeSetting(RULE, rule);
    }

    private int gainOfTrial(int what) {
        switch (what) {
            case 0:
                return gained(STRIPS);
            case 1:
                return gained(MOVES);
            case 2:
                return gained(SCRAP);
            default:
                return gained(WAYS);
        }
    }

    private int gained(int what) {
        return trial.tally(what) - yard.tally(what);
    }

    /** Reads the buffer up to its first error, and answers the index of it, or the buffer's length. */
    private int readBuffer() {
        reader.restart();
        for (int i = 0; i < length; i++) {
            if (!reader.accepts(buffer.get(i))) {
                return i;
            }
        }
        return length;
    }

    /** Brings in the coils of a buffer without errors, and answers how many found room. */
    private int bringInBuffer() {
        int received = 0;
        reader.restart();
        for (int i = 0; i < length; i++) {
            boolean read = reader.accepts(buffer.get(i));
            boolean partEnds = i == length - 1 || buffer.get(i + 1) == ';';
            if (read && partEnds) {
                int stack = reader.stack() == NONE ? yard.emptiest() : reader.stack();
                if (!yard.hasRoom(stack)) {
                    return received;
                }
                yard.bringIn(stack, reader.width(), reader.grade(), reader.quality());
                received++;
            }
        }
        return received;
    }

    private static long hashed(long hash, long value) {
        return 31L * hash + value;
    }

    private long hashedPlace(long hash, int place) {
        int number = yard.numberAt(place);
        long next = hashed(hash, number);
        if (number != NONE) {
            for (int what = 0; what < COIL_PROPERTIES; what++) {
                next = hashed(next, yard.coilProperty(place, what));
            }
        }
        return next;
    }

    private long hashedOrder(long hash, int order) {
        long next = hash;
        for (int what = 0; what < ORDER_PROPERTIES; what++) {
            next = hashed(next, yard.orderProperty(order, what));
        }
        next = hashed(next, numberOfChoice(order));
        for (int rule = 0; rule < RULES_IN_DIGEST; rule++) {
            beginTrial(rule);
            trial.fulfil(order);
            for (int what = 0; what < GAINS; what++) {
                next = hashed(next, gainOfTrial(what));
            }
        }
        return next;
    }

    /** The bits of a share from 0 to 1, reckoned here because LANGUAGE.md leaves no class Double. */
    private static long bitsOf(double share) {
        if (share <= 0.0) {
            return 0L;
        }
        double scaled = share;
        long exponent = 1023L;
        for (int i = 0; i < MOST_DOUBLINGS && scaled < 1.0; i++) {
            scaled = scaled * 2.0;
            exponent--;
        }
        long fraction = (long) ((scaled - 1.0) * 4503599627370496.0);
        return (exponent << 52) + fraction;
    }

    /** Numbers in a row. An index outside of it reads 0 and writes nothing: the machine never throws. */
    private static final class Row {
        private final int[] cells;

        Row(int size) {
            cells = new int[Math.max(size, 0)];
        }

        int get(int index) {
            return index >= 0 && index < cells.length ? cells[index] : 0;
        }

        void put(int index, int value) {
            if (index >= 0 && index < cells.length) {
                cells[index] = value;
            }
        }

        void add(int index, int value) {
            if (index >= 0 && index < cells.length) {
                cells[index] += value;
            }
        }

        void copyFrom(Row other) {
            int most = Math.min(cells.length, other.cells.length);
            System.arraycopy(other.cells, 0, cells, 0, most);
        }
    }

    /** Rows of as many columns each. Outside of them, too, 0 is read and nothing is written. */
    private static final class Grid {
        private final int columns;
        private final int[] cells;

        Grid(int rows, int columns) {
            this.columns = Math.max(columns, 0);
            cells = new int[Math.max(rows * this.columns, 0)];
        }

        int get(int row, int column) {
            int index = row * columns + column;
            boolean isColumn = column >= 0 && column < columns;
            return isColumn && index >= 0 && index < cells.length ? cells[index] : 0;
        }

        void put(int row, int column, int value) {
            int index = row * columns + column;
            boolean isColumn = column >= 0 && column < columns;
            if (isColumn && index >= 0 && index < cells.length) {
                cells[index] = value;
            }
        }

        void copyRow(int from, int to) {
            int source = from * columns;
            int target = to * columns;
            int last = cells.length - columns;
            if (source >= 0 && source <= last && target >= 0 && target <= last) {
                System.arraycopy(cells, source, cells, target, columns);
            }
        }

        void copyFrom(Grid other) {
            int most = Math.min(cells.length, other.cells.length);
            System.arraycopy(other.cells, 0, cells, 0, most);
        }
    }

    /** All that undo brings back: coils, orders, settings, and what is counted. */
    private static final class Yard {
        // A place is a stack and a height: the places of a stack follow one another, the lowest first.
        private final Grid coils = new Grid(PLACES, COIL_COLUMNS);
        private final Row heights = new Row(STACKS);
        private final Grid orders = new Grid(MOST_ORDERS, ORDER_COLUMNS);
        private final Row settings = new Row(SETTINGS);
        private final Row tallies = new Row(COUNTS);
        private int orderCount;
        private int nextCoil;
        private int nextOrder;

        Yard() {
            for (int place = 0; place < PLACES; place++) {
                coils.put(place, NUMBER, NONE);
            }
            for (int setting = 0; setting < FIRST_SETTINGS.length; setting++) {
                settings.put(setting, FIRST_SETTINGS[setting]);
            }
        }

        void copyFrom(Yard other) {
            coils.copyFrom(other.coils);
            heights.copyFrom(other.heights);
            orders.copyFrom(other.orders);
            settings.copyFrom(other.settings);
            tallies.copyFrom(other.tallies);
            orderCount = other.orderCount;
            nextCoil = other.nextCoil;
            nextOrder = other.nextOrder;
        }

        int tally(int what) {
            return tallies.get(what);
        }

        int settingNow(int setting) {
            return settings.get(setting);
        }

        void changeSetting(int setting, int value) {
            settings.put(setting, value);
        }

        int heightOf(int stack) {
            return heights.get(stack);
        }

        boolean hasRoom(int stack) {
            return heights.get(stack) < HIGH;
        }

        boolean hasSeen(int number) {
            return number >= 0 && number < nextCoil;
        }

        int numberAt(int place) {
            return coils.get(place, NUMBER);
        }

        int placeOf(int number) {
            // Empty places bear the number NONE, which is no coil's.
            if (number < 0) {
                return NONE;
            }
            for (int place = 0; place < PLACES; place++) {
                if (coils.get(place, NUMBER) == number) {
                    return place;
                }
            }
            return NONE;
        }

        int coilCount() {
            int sum = 0;
            for (int stack = 0; stack < STACKS; stack++) {
                sum += heights.get(stack);
            }
            return sum;
        }

        int sumOfCoils(int column) {
            int sum = 0;
            for (int place = 0; place < PLACES; place++) {
                if (coils.get(place, NUMBER) != NONE) {
                    sum += coils.get(place, column);
                }
            }
            return sum;
        }

        int coilProperty(int place, int what) {
            switch (what) {
                case OWN_STACK:
                    return stackOf(place);
                case COILS_ABOVE:
                    return coilsAbove(place);
                case BEING_REST:
                    return coils.get(place, IS_REST);
                default:
                    return coils.get(place, what);
            }
        }

        int coilsAbove(int place) {
            return heights.get(place / HIGH) - 1 - place % HIGH;
        }

        int widerThanTop(int stack) {
            int bottom = stack * HIGH;
            int top = bottom + heights.get(stack) - 1;
            int wider = 0;
            for (int place = bottom; place < top; place++) {
                if (coils.get(place, WIDTH) > coils.get(top, WIDTH)) {
                    wider++;
                }
            }
            return wider;
        }

        int emptiest() {
            int best = 0;
            for (int stack = 1; stack < STACKS; stack++) {
                if (heights.get(stack) < heights.get(best)) {
                    best = stack;
                }
            }
            return best;
        }

        // ---- coils come, move, and go

        int bringIn(int stack, int width, int grade, int quality) {
            tallies.add(RECEIVED, width);
            return putOnTop(stack, width, grade, quality, 0);
        }

        private int putOnTop(int stack, int width, int grade, int quality, int isRest) {
            int place = stack * HIGH + heights.get(stack);
            int number = nextCoil;
            coils.put(place, NUMBER, number);
            coils.put(place, WIDTH, width);
            coils.put(place, GRADE, grade);
            coils.put(place, QUALITY, quality);
            coils.put(place, IS_REST, isRest);
            heights.add(stack, 1);
            nextCoil++;
            return number;
        }

        private void takeTop(int stack) {
            coils.put(stack * HIGH + heights.get(stack) - 1, NUMBER, NONE);
            heights.add(stack, -1);
        }

        int moveTop(int stack, int to) {
            int place = stack * HIGH + heights.get(stack) - 1;
            int number = coils.get(place, NUMBER);
            coils.copyRow(place, to * HIGH + heights.get(to));
            coils.put(place, NUMBER, NONE);
            heights.add(stack, -1);
            heights.add(to, 1);
            tallies.add(MOVES, 1);
            tallies.add(WAYS, Math.abs(stack - to));
            return number;
        }

        int sendTop(int stack) {
            int width = coils.get(stack * HIGH + heights.get(stack) - 1, WIDTH);
            tallies.add(SENT_AWAY, width);
            takeTop(stack);
            return width;
        }

        /** As each coil goes where the fewest are, none of them finds a full stack while there is room. */
        boolean canDig(int place) {
            return coilsAbove(place) <= roomBeside(stackOf(place));
        }

        /** How many coils the other stacks have room for. */
        private int roomBeside(int own) {
            int room = 0;
            for (int stack = 0; stack < STACKS; stack++) {
                if (stack != own) {
                    room += HIGH - heights.get(stack);
                }
            }
            return room;
        }

        int digOut(int place) {
            int stack = stackOf(place);
            int above = coilsAbove(place);
            for (int i = 0; i < above; i++) {
                moveTop(stack, emptiestBeside(stack));
            }
            return above;
        }

        private int emptiestBeside(int own) {
            int best = NONE;
            for (int stack = 0; stack < STACKS; stack++) {
                boolean fewer = heights.get(stack) < heights.get(best);
                boolean asFew = heights.get(stack) == heights.get(best);
                boolean nearer = Math.abs(stack - own) < Math.abs(best - own);
                if (stack != own && (best == NONE || fewer || asFew && nearer)) {
                    best = stack;
                }
            }
            return best;
        }

        // ---- orders

        int orderCount() {
            return orderCount;
        }

        int orderColumn(int order, int column) {
            return orders.get(order, column);
        }

        int indexOfOrder(int number) {
            for (int order = 0; order < orderCount; order++) {
                if (orders.get(order, ORDER_NUMBER) == number) {
                    return order;
                }
            }
            return NONE;
        }

        int takeOrder(int grade, int quality, int width, int strips, int price) {
            int number = nextOrder;
            orders.put(orderCount, ORDER_NUMBER, number);
            orders.put(orderCount, ORDER_GRADE, grade);
            orders.put(orderCount, ORDER_QUALITY, quality);
            orders.put(orderCount, STRIP_WIDTH, width);
            orders.put(orderCount, STILL, strips);
            orders.put(orderCount, PRICE, price);
            orderCount++;
            nextOrder++;
            return number;
        }

        void dropOrder(int order) {
            for (int i = order; i < orderCount - 1; i++) {
                orders.copyRow(i + 1, i);
            }
            orderCount--;
        }

        void dropIfDone(int order) {
            if (orders.get(order, STILL) == 0) {
                dropOrder(order);
            }
        }

        int orderProperty(int order, int what) {
            switch (what) {
                case COILS_SUITING:
                    return coilsSuiting(order);
                case STRIPS_FITTING:
                    return stripsFitting(order);
                default:
                    return orders.get(order, what);
            }
        }

        private int coilsSuiting(int order) {
            int take = widthTaken(order);
            int suiting = 0;
            for (int place = 0; place < PLACES; place++) {
                if (suits(order, place, take)) {
                    suiting++;
                }
            }
            return suiting;
        }

        private int stripsFitting(int order) {
            int take = widthTaken(order);
            int fitting = 0;
            for (int place = 0; place < PLACES; place++) {
                if (suits(order, place, take)) {
                    fitting += stripsIn(coils.get(place, WIDTH), take);
                }
            }
            return fitting;
        }

        private boolean suits(int order, int place, int take) {
            return coils.get(place, NUMBER) != NONE && mismatch(order, place, take) == SUITS;
        }

        // ---- slits

        /** The width that a strip of an order takes of a coil. */
        private int widthTaken(int order) {
            return orders.get(order, STRIP_WIDTH) + settings.get(LOSS);
        }

        private static int stripsIn(int width, int take) {
            return take > 0 ? width / take : 0;
        }

        /** Why a coil does not suit an order, even if it could be dug out. */
        private int mismatch(int order, int place, int take) {
            if (coils.get(place, GRADE) != orders.get(order, ORDER_GRADE)) {
                return ANOTHER_GRADE;
            }
            if (coils.get(place, QUALITY) < orders.get(order, ORDER_QUALITY)) {
                return TOO_LITTLE_QUALITY;
            }
            return coils.get(place, WIDTH) < take ? NO_STRIP_FITS : SUITS;
        }

        int reasonAgainst(int order, int place) {
            int reason = mismatch(order, place, widthTaken(order));
            if (reason != SUITS) {
                return reason;
            }
            return canDig(place) ? SUITS : CANNOT_BE_DUG;
        }

        /** The place of the coil that the rule chooses for an order. */
        int choose(int order) {
            int take = widthTaken(order);
            int best = NONE;
            int bestWorth = 0;
            for (int place = 0; place < PLACES; place++) {
                if (coils.get(place, NUMBER) == NONE || mismatch(order, place, take) != SUITS) {
                    continue;
                }
                // Not by canDig, nor in worthByRule: calls from digest on stay seven deep.
                int above = coilsAbove(place);
                if (above > roomBeside(stackOf(place))) {
                    continue;
                }
                int worth = worthByRule(order, place, take, above);
                boolean earlier = coils.get(place, NUMBER) < coils.get(best, NUMBER);
                if (best == NONE || worth < bestWorth || worth == bestWorth && earlier) {
                    best = place;
                    bestWorth = worth;
                }
            }
            return best;
        }

        /** What the rule goes by: the least is the best. */
        private int worthByRule(int order, int place, int take, int above) {
            int width = coils.get(place, WIDTH);
            switch (settings.get(RULE)) {
                case BY_REST:
                    return width - take * Math.min(stripsIn(width, take), orders.get(order, STILL));
                case BY_ABOVE:
                    return above;
                default:
                    return coils.get(place, QUALITY);
            }
        }

        /** Cuts the topmost coil of a stack for an order, and answers how many strips are cut. */
        int cutTop(int order, int stack) {
            int top = stack * HIGH + heights.get(stack) - 1;
            int grade = coils.get(top, GRADE);
            int quality = coils.get(top, QUALITY);
            int width = coils.get(top, WIDTH);
            int take = widthTaken(order);
            int still = orders.get(order, STILL);
            int strips = Math.min(stripsIn(width, take), still);
            int rest = width - strips * take;
            takeTop(stack);
            orders.put(order, STILL, still - strips);
            tallies.add(STRIPS, strips);
            tallies.add(STRIP_WIDTHS, strips * orders.get(order, STRIP_WIDTH));
            tallies.add(LOST, strips * settings.get(LOSS));
            tallies.add(PRICES, strips * orders.get(order, PRICE));
            if (rest >= settings.get(LEAST_REST)) {
                putOnTop(stack, rest, grade, Math.max(quality - settings.get(QUALITY_LOSS), 0), 1);
            } else {
                tallies.add(SCRAP, rest);
            }
            return strips;
        }

        /** Serves an order, and answers how many strips are cut. */
        int fulfil(int order) {
            int wanted = orders.get(order, STILL);
            int cut = 0;
            // Each slit cuts a strip at least, so there are never more slits than strips.
            for (int slits = 0; slits < MOST_STILL && cut < wanted; slits++) {
                int place = choose(order);
                if (place == NONE) {
                    break;
                }
                digOut(place);
                cut += cutTop(order, stackOf(place));
            }
            dropIfDone(order);
            return cut;
        }

        /** Serves all orders, and answers how many are done by it. */
        int fulfilEach() {
            int before = orderCount;
            int lastPrice = MOST_PRICE + 1;
            int lastNumber = NONE;
            for (int i = 0; i < MOST_ORDERS; i++) {
                int order = dearestBehind(lastPrice, lastNumber);
                if (order == NONE) {
                    break;
                }
                lastPrice = orders.get(order, PRICE);
                lastNumber = orders.get(order, ORDER_NUMBER);
                fulfil(order);
            }
            return before - orderCount;
        }

        /** The next order to serve; indices shift when an order goes, prices and numbers stay. */
        private int dearestBehind(int lastPrice, int lastNumber) {
            int best = NONE;
            for (int order = 0; order < orderCount; order++) {
                int price = orders.get(order, PRICE);
                boolean behind = price < lastPrice
                        || price == lastPrice && orders.get(order, ORDER_NUMBER) > lastNumber;
                if (behind && (best == NONE || price > orders.get(best, PRICE))) {
                    best = order;
                }
            }
            return best;
        }
    }

    /** The saved states in a ring, so that the oldest one is written over. */
    private static final class History {
        private final Yard[] states = new Yard[MOST_SAVED];
        private int next;
        private int kept;

        History() {
            for (int i = 0; i < states.length; i++) {
                states[i] = new Yard();
            }
        }

        int kept() {
            return kept;
        }

        void save(Yard yard) {
            Yard state = stateAt(next);
            if (state != null) {
                state.copyFrom(yard);
            }
            next = (next + 1) % MOST_SAVED;
            kept = Math.min(kept + 1, MOST_SAVED);
        }

        void restore(Yard yard) {
            next = (next + MOST_SAVED - 1) % MOST_SAVED;
            kept = Math.max(kept - 1, 0);
            Yard state = stateAt(next);
            if (state != null) {
                yard.copyFrom(state);
            }
        }

        private Yard stateAt(int index) {
            return index >= 0 && index < states.length ? states[index] : null;
        }
    }

    /** Reads coils as a text, a character at a time, and holds the part that it read last. */
    private static final class CoilReader {
        private static final int FIRST_DIGIT = 0;
        private static final int WIDTH_OR_G = 1;
        private static final int GRADE_DIGIT = 2;
        private static final int QUALITY_DIGIT = 3;
        private static final int STACK_DIGIT = 4;
        // From here on the part may end.
        private static final int BEHIND_GRADE = 5;
        private static final int BEHIND_QUALITY = 6;
        private static final int BEHIND_STACK = 7;

        private int expected;
        private int width;
        private int grade;
        private int quality;
        private int stack;

        void restart() {
            expected = FIRST_DIGIT;
        }

        boolean isComplete() {
            return expected >= BEHIND_GRADE;
        }

        int width() {
            return width;
        }

        int grade() {
            return grade;
        }

        int quality() {
            return quality;
        }

        /** The stack that the part names, or NONE. */
        int stack() {
            return stack;
        }

        /** Reads a character; answers false, and stays as it is, if it is a syntax error. */
        boolean accepts(int letter) {
            int digit = letter >= '0' && letter <= '9' ? letter - '0' : NONE;
            switch (expected) {
                case FIRST_DIGIT:
                    return digit > 0 && beginsPart(digit);
                case WIDTH_OR_G:
                    return letter == 'g' ? expects(GRADE_DIGIT) : digit != NONE && widens(digit);
                case GRADE_DIGIT:
                    return within(digit, 0, MOST_GRADE) && takesGrade(digit);
                case QUALITY_DIGIT:
                    return digit != NONE && takesQuality(digit);
                case STACK_DIGIT:
                    return isStack(digit) && takesStack(digit);
                default:
                    return goesOn(letter);
            }
        }

        private boolean expects(int next) {
            expected = next;
            return true;
        }

        private boolean beginsPart(int digit) {
            width = digit;
            grade = 0;
            quality = USUAL_QUALITY;
            stack = NONE;
            return expects(WIDTH_OR_G);
        }

        private boolean widens(int digit) {
            int wider = 10 * width + digit;
            if (wider > MOST_WIDTH) {
                return false;
            }
            width = wider;
            return true;
        }

        private boolean takesGrade(int digit) {
            grade = digit;
            return expects(BEHIND_GRADE);
        }

        private boolean takesQuality(int digit) {
            quality = digit;
            return expects(BEHIND_QUALITY);
        }

        private boolean takesStack(int digit) {
            stack = digit;
            return expects(BEHIND_STACK);
        }

        private boolean goesOn(int letter) {
            switch (letter) {
                case ';':
                    return expects(FIRST_DIGIT);
                case 's':
                    return expected != BEHIND_STACK && expects(STACK_DIGIT);
                case 'q':
                    return expected == BEHIND_GRADE && expects(QUALITY_DIGIT);
                default:
                    return false;
            }
        }
    }
}
