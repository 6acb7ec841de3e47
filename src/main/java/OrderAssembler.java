import java.util.Arrays;

/**
 * An assemble-to-order system: bills of material with nested products and common parts, reservations
 * that never exceed the stock, an allocation ladder by customer classes, partial shipments, purchases
 * with lead times, and promise dates.
 *
 * <p>All rows are made with the object and used again, so that no call makes new ones.
 */
public final class OrderAssembler {
    public static final int NONE = -1;
    public static final int OPEN = 0;
    public static final int RESERVED = 1;
    public static final int DONE = 2;
    public static final int CANCELLED = 3;
    public static final int SYNTAX = 1;
    public static final int BAD_NUMBER = 2;
    public static final int BAD_NAME = 3;
    public static final int TOO_MANY = 4;
    public static final int TOO_MUCH = 5;

    private static final int MAX_TEXT = 900;
    private static final int MAX_PARTS = 12;
    private static final int MAX_PRODUCTS = 8;
    private static final int MAX_LINES = 6;
    private static final int MAX_RUNGS = 6;
    private static final int MAX_ORDERS = 20;
    private static final int MAX_ARRIVALS = 20;
    private static final int MAX_UNDO = 12;
    private static final int LOG_SIZE = 16;
    private static final int TOTALS = 5;

    private static final int MAX_STOCK = 9999;
    private static final int MAX_LEAD_TIME = 60;
    private static final int MAX_LINE_QUANTITY = 20;
    private static final int MAX_NEED = 9999;
    private static final int MAX_CLASS = 9;
    private static final int FULL_SHARE = 100;
    private static final int MAX_UNITS = 99;
    private static final int MAX_DUE = 999;
    private static final int MAX_ASKED = 999;
    private static final int MAX_BOUGHT = 999;
    private static final int MAX_DAYS = 100;

    private static final int MAX_HALVINGS = 32;
    private static final int APPENDED_BYTES = 20;
    private static final int MAX_NAME = 8;
    private static final int MAX_DIGITS = 4;
    // The longest text is that of the needs: a name, a colon, and 12 times a space, 4 digits and a name.
    private static final int MAX_FORMATTED = 200;
    // An item is a part's number, or this plus a product's number.
    private static final int PRODUCT_ITEM = 100;

    private final Parser parser = new Parser();
    private final InputText input = parser.tokens.text;
    private final History history = new History();
    private final Allocation allocation = new Allocation();
    private final FormattedText formatted = new FormattedText();
    private final int[] free = new int[MAX_PARTS];
    private Catalog catalog = new Catalog();
    private Ledger ledger = new Ledger();

    public OrderAssembler() {
        catalog.addRung(0, MAX_CLASS, FULL_SHARE);
    }

    // ---- input

    public int append(int w0, int w1, int w2, int w3, int w4) {
        if (!input.hasRoomFor(APPENDED_BYTES)) {
            return NONE;
        }
        input.putWord(w0);
        input.putWord(w1);
        input.putWord(w2);
        input.putWord(w3);
        input.putWord(w4);
        return input.length;
    }

    public boolean truncate(int length) {
        return input.shorten(length);
    }

    public int load() throws IllegalArgumentException {
        parser.begin();
        boolean right = true;
        // Each line takes some bytes, so there are fewer lines than bytes.
        for (int line = 0; line < MAX_TEXT && right && parser.hasLine(); line++) {
            right = parser.readLine();
        }
        input.shorten(0);
        if (!right) {
            throw new IllegalArgumentException("the text does not match");
        }
        catalog = parser.swapCatalog(catalog);
        ledger = parser.swapLedger(ledger);
        history.forget();
        return catalog.productCount;
    }

    public int errorOffset() {
        return parser.failOffset;
    }

    public int errorKind() {
        return parser.failKind;
    }

    // ---- bills of material

    public int count(int what) {
        switch (what) {
            case 0: return catalog.partCount;
            case 1: return catalog.productCount;
            case 2: return ledger.orders.size;
            case 3: return catalog.rungCount;
            case 4: return ledger.warehouse.arrivalCount;
            default: return NONE;
        }
    }

    public int lineCount(int product) throws IndexOutOfBoundsException {
        checkProduct(product);
        return catalog.linesOf(product);
    }

    public int lineItem(int product, int line) throws IndexOutOfBoundsException {
        checkProduct(product);
        return catalog.itemOf(product, line);
    }

    public int lineQuantity(int product, int line) throws IndexOutOfBoundsException {
        checkProduct(product);
        return catalog.quantityOf(product, line);
    }

    public int need(int product, int part) throws IndexOutOfBoundsException {
        checkProduct(product);
        checkPart(part);
        return catalog.needOf(product, part);
    }

    public int level(int product) throws IndexOutOfBoundsException {
        checkProduct(product);
        return catalog.levelOf(product);
    }

    public int pieces(int product) throws IndexOutOfBoundsException {
        checkProduct(product);
        int sum = 0;
        for (int part = 0; part < catalog.partCount; part++) {
            sum += catalog.needOf(product, part);
        }
        return sum;
    }

    public int usedBy(int part) throws IndexOutOfBoundsException {
        checkPart(part);
        int set = 0;
        for (int product = 0; product < catalog.productCount; product++) {
            if (catalog.needOf(product, part) > 0) {
                set |= 1 << product;
            }
        }
        return set;
    }

    public int commonParts(int product, int other) throws IndexOutOfBoundsException {
        checkProduct(product);
        checkProduct(other);
        int set = 0;
        for (int part = 0; part < catalog.partCount; part++) {
            if (catalog.needOf(product, part) > 0 && catalog.needOf(other, part) > 0) {
                set |= 1 << part;
            }
        }
        return set;
    }

    // ---- stock

    public int day() {
        return ledger.warehouse.today;
    }

    public int stock(int part) throws IndexOutOfBoundsException {
        checkPart(part);
        return ledger.warehouse.stockOf(part);
    }

    public int reserved(int part) throws IndexOutOfBoundsException {
        checkPart(part);
        return ledger.warehouse.reservedOf(part);
    }

    public int arriving(int part) throws IndexOutOfBoundsException {
        checkPart(part);
        return ledger.warehouse.allArriving(part);
    }

    public int nextArrival(int part) throws IndexOutOfBoundsException {
        checkPart(part);
        return ledger.warehouse.earliestArrival(part);
    }

    public int buildable(int product) throws IndexOutOfBoundsException {
        checkProduct(product);
        ledger.warehouse.fillFree(free);
        return catalog.mostUnits(product, free);
    }

    public int bottleneck(int product) throws IndexOutOfBoundsException {
        checkProduct(product);
        ledger.warehouse.fillFree(free);
        return catalog.tightestPart(product, free);
    }

    public int buildableTogether(int product, int other)
            throws IndexOutOfBoundsException, IllegalArgumentException {
        checkProduct(product);
        checkProduct(other);
        checkArgument(product != other);
        ledger.warehouse.fillFree(free);
        return catalog.mostTogether(product, other, free);
    }

    // ---- orders

    public int stateOf(int order) throws IndexOutOfBoundsException {
        checkOrder(order);
        return ledger.orders.stateFor(order);
    }

    public int openUnits(int order) throws IndexOutOfBoundsException {
        checkOrder(order);
        return ledger.orders.openOf(order);
    }

    public int reservedUnits(int order) throws IndexOutOfBoundsException {
        checkOrder(order);
        return ledger.orders.reservedOf(order);
    }

    public int shippedUnits(int order) throws IndexOutOfBoundsException {
        checkOrder(order);
        return ledger.orders.shippedOf(order);
    }

    public int orderField(int order, int what) throws IndexOutOfBoundsException {
        checkOrder(order);
        OrderBook orders = ledger.orders;
        switch (what) {
            case 0: return orders.productOf(order);
            case 1: return orders.quantityOf(order);
            case 2: return orders.classOf(order);
            case 3: return orders.dueOf(order);
            case 4: return orders.isWhole(order) ? 1 : 0;
            default: return NONE;
        }
    }

    public int missing(int order, int part) throws IndexOutOfBoundsException {
        checkOrder(order);
        checkPart(part);
        return shortageOf(order, part);
    }

    public int toBuy(int part) throws IndexOutOfBoundsException {
        checkPart(part);
        return shortageOfAll(part);
    }

    public int scarcestPart() {
        int scarcest = NONE;
        int greatest = 0;
        for (int part = 0; part < catalog.partCount; part++) {
            int shortage = shortageOfAll(part);
            if (shortage > greatest) {
                greatest = shortage;
                scarcest = part;
            }
        }
        return scarcest;
    }

    // ---- promise dates and trials; nothing changes

    public int promise(int product, int units) throws IndexOutOfBoundsException, IllegalArgumentException {
        checkProduct(product);
        checkArgument(units >= 1 && units <= MAX_ASKED);
        return promiseDate(product, units);
    }

    public int promiseOf(int order) throws IndexOutOfBoundsException {
        checkOrder(order);
        if (isClosed(order)) {
            return NONE;
        }
        return promiseDate(ledger.orders.productOf(order), ledger.orders.openOf(order));
    }

    public int delayingPart(int order) throws IndexOutOfBoundsException {
        checkOrder(order);
        int open = ledger.orders.openOf(order);
        if (open == 0) {
            return NONE;
        }
        int product = ledger.orders.productOf(order);
        int delaying = NONE;
        int latest = NONE;
        for (int part = 0; part < catalog.partCount; part++) {
            int need = catalog.needOf(product, part);
            int partDay = need > 0 ? dayOfPart(part, open * need) : NONE;
            if (partDay > latest) {
                latest = partDay;
                delaying = part;
            }
        }
        return delaying;
    }

    public int lateOrders() {
        OrderBook orders = ledger.orders;
        int set = 0;
        for (int order = 0; order < orders.size; order++) {
            int open = orders.openOf(order);
            if (open > 0 && promiseDate(orders.productOf(order), open) > orders.dueOf(order)) {
                set |= 1 << order;
            }
        }
        return set;
    }

    public int wouldGet(int order) throws IndexOutOfBoundsException {
        checkOrder(order);
        allocation.tryOut(catalog, ledger);
        return allocation.grantOf(order);
    }

    public int rungOf(int order) throws IndexOutOfBoundsException {
        checkOrder(order);
        allocation.tryOut(catalog, ledger);
        return allocation.firstRungOf(order);
    }

    public int rungUnits(int rung) throws IndexOutOfBoundsException {
        checkRung(rung);
        allocation.tryOut(catalog, ledger);
        return allocation.unitsInRung(rung);
    }

    public int missingPieces(int order) throws IndexOutOfBoundsException {
        checkOrder(order);
        int sum = 0;
        for (int part = 0; part < catalog.partCount; part++) {
            sum += shortageOf(order, part);
        }
        return sum;
    }

    public int buildableAfter(int product, int other, int units)
            throws IndexOutOfBoundsException, IllegalArgumentException {
        checkProduct(product);
        checkProduct(other);
        checkArgument(product != other && units >= 0 && units <= MAX_ASKED);
        ledger.warehouse.fillFree(free);
        if (catalog.mostUnits(other, free) < units) {
            return NONE;
        }
        catalog.takePieces(other, units, free);
        return catalog.mostUnits(product, free);
    }

    public int coveredOrders() {
        return allocation.coveredSet(catalog, ledger);
    }

    public int promiseOfAll() {
        int latest = ledger.warehouse.today;
        for (int part = 0; part < catalog.partCount; part++) {
            int pieces = ledger.openPieces(catalog, part);
            if (pieces > 0) {
                latest = Math.max(latest, dayOfPart(part, pieces));
            }
        }
        return latest;
    }

    // ---- actions

    public int addOrder(int product, int units, int level, int due, boolean whole)
            throws IndexOutOfBoundsException, IllegalArgumentException, IllegalStateException {
        checkProduct(product);
        checkArgument(units >= 1 && units <= MAX_UNITS);
        checkArgument(level >= 0 && level <= MAX_CLASS);
        checkArgument(due >= 0 && due <= MAX_DUE);
        checkState(ledger.orders.size < MAX_ORDERS);
        history.record(ledger);
        return ledger.orders.enter(product, units, level, due, whole);
    }

    public int cancel(int order) throws IndexOutOfBoundsException, IllegalStateException {
        checkOrder(order);
        checkState(!isClosed(order));
        history.record(ledger);
        int units = ledger.orders.reservedOf(order);
        ledger.changeReserved(catalog, order, -units);
        ledger.orders.markCancelled(order);
        return units;
    }

    public int reserve(int order, int units)
            throws IndexOutOfBoundsException, IllegalArgumentException, IllegalStateException {
        checkOrder(order);
        checkArgument(units >= 1);
        OrderBook orders = ledger.orders;
        checkState(units <= orders.openOf(order) && orders.mayMove(order, units));
        ledger.warehouse.fillFree(free);
        checkState(units <= catalog.mostUnits(orders.productOf(order), free));
        history.record(ledger);
        ledger.changeReserved(catalog, order, units);
        return orders.openOf(order);
    }

    public int release(int order, int units)
            throws IndexOutOfBoundsException, IllegalArgumentException, IllegalStateException {
        checkOrder(order);
        checkArgument(units >= 1);
        OrderBook orders = ledger.orders;
        checkState(units <= orders.reservedOf(order) && orders.mayMove(order, units));
        history.record(ledger);
        ledger.changeReserved(catalog, order, -units);
        return orders.reservedOf(order);
    }

    public int allocate() {
        history.record(ledger);
        allocation.tryOut(catalog, ledger);
        int sum = 0;
        for (int order = 0; order < ledger.orders.size; order++) {
            int units = allocation.grantOf(order);
            ledger.changeReserved(catalog, order, units);
            sum += units;
        }
        return sum;
    }

    public int ship(int order) throws IndexOutOfBoundsException, IllegalStateException {
        checkOrder(order);
        checkState(ledger.orders.reservedOf(order) > 0);
        history.record(ledger);
        return ledger.sendReserved(catalog, order);
    }

    public int buy(int part, int pieces)
            throws IndexOutOfBoundsException, IllegalArgumentException, IllegalStateException {
        checkPart(part);
        checkArgument(pieces >= 1 && pieces <= MAX_BOUGHT);
        checkState(ledger.warehouse.arrivalCount < MAX_ARRIVALS);
        history.record(ledger);
        ledger.log.addBought(pieces);
        return ledger.warehouse.addArrival(part, pieces, catalog.leadTimeOf(part));
    }

    public int adjust(int part, int stock) throws IndexOutOfBoundsException, IllegalArgumentException {
        checkPart(part);
        checkArgument(stock >= 0 && stock <= MAX_STOCK);
        history.record(ledger);
        ledger.warehouse.setStock(part, stock);
        return ledger.releaseExcess(catalog, part);
    }

    public int advance(int days) throws IllegalArgumentException {
        checkArgument(days >= 1 && days <= MAX_DAYS);
        history.record(ledger);
        int came = 0;
        for (int passed = 0; passed < days; passed++) {
            came += ledger.warehouse.passDay();
        }
        return came;
    }

    public int undo() {
        return history.takeBack(ledger) ? history.depth : NONE;
    }

    public int undoDepth() {
        return history.depth;
    }

    // ---- totals, the shipment log, formatted text

    public int total(int what) {
        return ledger.log.totalOf(what);
    }

    public int shipment(int ago, int what) {
        return ledger.log.entry(ago, what);
    }

    public int formatOrder(int order) throws IndexOutOfBoundsException {
        checkOrder(order);
        OrderBook orders = ledger.orders;
        formatted.begin(catalog.productName(orders.productOf(order)));
        formatted.putNumbered(" x", orders.quantityOf(order));
        formatted.putNumbered(" c", orders.classOf(order));
        formatted.putNumbered(" d", orders.dueOf(order));
        if (orders.isWhole(order)) {
            formatted.putText(" w");
        }
        formatted.putNumbered(" o", orders.openOf(order));
        formatted.putNumbered(" r", orders.reservedOf(order));
        formatted.putNumbered(" s", orders.shippedOf(order));
        if (orders.stateFor(order) == CANCELLED) {
            formatted.putText(" cancelled");
        }
        return formatted.length;
    }

    public int formatNeeds(int product) throws IndexOutOfBoundsException {
        checkProduct(product);
        formatted.begin(catalog.productName(product));
        formatted.putText(":");
        for (int part = 0; part < catalog.partCount; part++) {
            int need = catalog.needOf(product, part);
            if (need > 0) {
                formatted.putNumbered(" ", need);
                formatted.putName(catalog.partName(part));
            }
        }
        return formatted.length;
    }

    public int formattedByte(int index) {
        return formatted.byteAt(index);
    }

    // ---- checks and sums of several calls

    private void checkPart(int part) {
        if (!isInside(part, catalog.partCount)) {
            throw new IndexOutOfBoundsException("no such part");
        }
    }

    private void checkProduct(int product) {
        if (!isInside(product, catalog.productCount)) {
            throw new IndexOutOfBoundsException("no such product");
        }
    }

    private void checkOrder(int order) {
        if (!isInside(order, ledger.orders.size)) {
            throw new IndexOutOfBoundsException("no such order");
        }
    }

    private void checkRung(int rung) {
        if (!isInside(rung, catalog.rungCount)) {
            throw new IndexOutOfBoundsException("no such rung");
        }
    }

    private static void checkArgument(boolean right) {
        if (!right) {
            throw new IllegalArgumentException("an argument is out of range");
        }
    }

    private static void checkState(boolean right) {
        if (!right) {
            throw new IllegalStateException("not possible now");
        }
    }

    private static boolean isInside(int index, int count) {
        return index >= 0 && index < count;
    }

    private boolean isClosed(int order) {
        int state = ledger.orders.stateFor(order);
        return state == DONE || state == CANCELLED;
    }

    private int shortageOf(int order, int part) {
        int pieces = ledger.orders.openOf(order) * catalog.needOf(ledger.orders.productOf(order), part);
        return Math.max(0, pieces - ledger.warehouse.freeOf(part));
    }

    private int shortageOfAll(int part) {
        Warehouse warehouse = ledger.warehouse;
        int pieces = ledger.openPieces(catalog, part);
        return Math.max(0, pieces - warehouse.freeOf(part) - warehouse.allArriving(part));
    }

    private int dayOfPart(int part, int pieces) {
        return ledger.warehouse.dayFor(part, pieces, catalog.leadTimeOf(part));
    }

    private int promiseDate(int product, int units) {
        int latest = ledger.warehouse.today;
        for (int part = 0; part < catalog.partCount; part++) {
            int need = catalog.needOf(product, part);
            if (need > 0) {
                latest = Math.max(latest, dayOfPart(part, units * need));
            }
        }
        return latest;
    }

    /** What a text fixes for good: the parts, the products with their bills, and the rungs. */
    private static final class Catalog {
        int partCount;
        int productCount;
        int rungCount;
        private final long[] partNames = new long[MAX_PARTS];
        private final int[] leadTimes = new int[MAX_PARTS];
        private final long[] productNames = new long[MAX_PRODUCTS];
        private final int[] levels = new int[MAX_PRODUCTS];
        private final int[] lineCounts = new int[MAX_PRODUCTS];
        private final int[][] items = new int[MAX_PRODUCTS][MAX_LINES];
        private final int[][] quantities = new int[MAX_PRODUCTS][MAX_LINES];
        private final int[][] needs = new int[MAX_PRODUCTS][MAX_PARTS];
        private final int[] lowest = new int[MAX_RUNGS];
        private final int[] highest = new int[MAX_RUNGS];
        private final int[] shares = new int[MAX_RUNGS];

        void clear() {
            partCount = 0;
            productCount = 0;
            rungCount = 0;
        }

        void addPart(long name, int leadTime) {
            if (partCount < MAX_PARTS) {
                partNames[partCount] = name;
                leadTimes[partCount] = leadTime;
                partCount++;
            }
        }

        void addRung(int low, int high, int share) {
            if (rungCount < MAX_RUNGS) {
                lowest[rungCount] = low;
                highest[rungCount] = high;
                shares[rungCount] = share;
                rungCount++;
            }
        }

        // A product counts only when its bill is whole: until then its name is no name of an item.
        void beginProduct(long name) {
            if (productCount < MAX_PRODUCTS) {
                productNames[productCount] = name;
                levels[productCount] = 1;
                lineCounts[productCount] = 0;
                Arrays.fill(needs[productCount], 0);
            }
        }

        int linesOfBegun() {
            return productCount < MAX_PRODUCTS ? lineCounts[productCount] : MAX_LINES;
        }

        boolean begunHas(int item) {
            for (int line = 0; line < linesOfBegun(); line++) {
                if (productCount < MAX_PRODUCTS && items[productCount][line] == item) {
                    return true;
                }
            }
            return false;
        }

        boolean begunCanHold(int item, int quantity) {
            for (int part = 0; part < partCount; part++) {
                if (needWith(item, quantity, part) > MAX_NEED) {
                    return false;
                }
            }
            return true;
        }

        void addLine(int item, int quantity) {
            int line = linesOfBegun();
            if (productCount >= MAX_PRODUCTS || line >= MAX_LINES) {
                return;
            }
            for (int part = 0; part < partCount; part++) {
                needs[productCount][part] = needWith(item, quantity, part);
            }
            levels[productCount] = Math.max(levels[productCount], 1 + levelOf(item - PRODUCT_ITEM));
            items[productCount][line] = item;
            quantities[productCount][line] = quantity;
            lineCounts[productCount] = line + 1;
        }

        private int needWith(int item, int quantity, int part) {
            int before = productCount < MAX_PRODUCTS ? needs[productCount][part] : 0;
            int ofItem = item == part ? 1 : needOf(item - PRODUCT_ITEM, part);
            return before + quantity * ofItem;
        }

        void endProduct() {
            if (productCount < MAX_PRODUCTS) {
                productCount++;
            }
        }

        int partNamed(long name) {
            for (int part = 0; part < partCount; part++) {
                if (partNames[part] == name) {
                    return part;
                }
            }
            return NONE;
        }

        int productNamed(long name) {
            for (int product = 0; product < productCount; product++) {
                if (productNames[product] == name) {
                    return product;
                }
            }
            return NONE;
        }

        int itemNamed(long name) {
            int product = productNamed(name);
            return product == NONE ? partNamed(name) : PRODUCT_ITEM + product;
        }

        long partName(int part) {
            return isInside(part, partCount) ? partNames[part] : 0;
        }

        long productName(int product) {
            return isInside(product, productCount) ? productNames[product] : 0;
        }

        int leadTimeOf(int part) {
            return isInside(part, partCount) ? leadTimes[part] : 0;
        }

        int linesOf(int product) {
            return isInside(product, productCount) ? lineCounts[product] : 0;
        }

        int itemOf(int product, int line) {
            return isInside(line, linesOf(product)) ? items[product][line] : NONE;
        }

        int quantityOf(int product, int line) {
            return isInside(line, linesOf(product)) ? quantities[product][line] : NONE;
        }

        int levelOf(int product) {
            return isInside(product, productCount) ? levels[product] : 0;
        }

        int needOf(int product, int part) {
            boolean exists = product >= 0 && product < productCount && part >= 0 && part < partCount;
            return exists ? needs[product][part] : 0;
        }

        boolean rungTakes(int rung, int level) {
            return isInside(rung, rungCount) && level >= lowest[rung] && level <= highest[rung];
        }

        int shareOf(int rung) {
            return isInside(rung, rungCount) ? shares[rung] : 0;
        }

        /** The part that allows the fewest units of the product, from such a row of pieces. */
        int tightestPart(int product, int[] row) {
            int tightest = NONE;
            int fewest = 0;
            for (int part = 0; part < partCount && part < row.length; part++) {
                int need = needOf(product, part);
                if (need > 0 && (tightest == NONE || row[part] / need < fewest)) {
                    tightest = part;
                    fewest = row[part] / need;
                }
            }
            return tightest;
        }

        int mostUnits(int product, int[] row) {
            int part = tightestPart(product, row);
            int need = needOf(product, part);
            return need > 0 && isInside(part, row.length) ? row[part] / need : 0;
        }

        void takePieces(int product, int units, int[] row) {
            for (int part = 0; part < partCount && part < row.length; part++) {
                row[part] -= units * needOf(product, part);
            }
        }

        /**
         * With x units of the product, the sum of units is x plus the least of (row - x * need) / (need
         * of the other), rounded down. Before the rounding this is concave in x, so it rises up to some
         * x and never again behind it: halving finds this x.
         */
        int mostTogether(int product, int other, int[] row) {
            int low = 0;
            int high = mostUnits(product, row);
            for (int round = 0; round < MAX_HALVINGS && low < high; round++) {
                int middle = low + (high - low) / 2;
                if (oneMoreGains(product, other, row, middle)) {
                    low = middle + 1;
                } else {
                    high = middle;
                }
            }
            int limiting = limitingPart(product, other, row, low);
            int need = needOf(other, limiting);
            return need > 0 ? low + (int) (leftAfter(product, row, limiting, low) / need) : low;
        }

        private boolean oneMoreGains(int product, int other, int[] row, int units) {
            int now = limitingPart(product, other, row, units);
            int then = limitingPart(product, other, row, units + 1);
            long needNow = needOf(other, now);
            long needThen = needOf(other, then);
            long leftNow = leftAfter(product, row, now, units);
            long leftThen = leftAfter(product, row, then, units + 1);
            return (leftThen + needThen) * needNow > leftNow * needThen;
        }

        // The fractions are compared exactly, by products: rounded ones would hide the slope.
        private int limitingPart(int product, int other, int[] row, int units) {
            int limiting = NONE;
            for (int part = 0; part < partCount; part++) {
                long need = needOf(other, part);
                if (need > 0 && (limiting == NONE
                        || leftAfter(product, row, part, units) * needOf(other, limiting)
                        < leftAfter(product, row, limiting, units) * need)) {
                    limiting = part;
                }
            }
            return limiting;
        }

        private long leftAfter(int product, int[] row, int part, int units) {
            return isInside(part, row.length) ? row[part] - (long) units * needOf(product, part) : 0;
        }
    }

    /** The day, the stock, what is reserved of it, and the arrivals. */
    private static final class Warehouse {
        int today;
        int arrivalCount;
        private final int[] stocks = new int[MAX_PARTS];
        private final int[] reservations = new int[MAX_PARTS];
        private final int[] arrivalParts = new int[MAX_ARRIVALS];
        private final int[] arrivalPieces = new int[MAX_ARRIVALS];
        private final int[] arrivalDays = new int[MAX_ARRIVALS];

        void clear() {
            today = 0;
            arrivalCount = 0;
            Arrays.fill(stocks, 0);
            Arrays.fill(reservations, 0);
        }

        void copyFrom(Warehouse from) {
            today = from.today;
            arrivalCount = from.arrivalCount;
            System.arraycopy(from.stocks, 0, stocks, 0, MAX_PARTS);
            System.arraycopy(from.reservations, 0, reservations, 0, MAX_PARTS);
            System.arraycopy(from.arrivalParts, 0, arrivalParts, 0, MAX_ARRIVALS);
            System.arraycopy(from.arrivalPieces, 0, arrivalPieces, 0, MAX_ARRIVALS);
            System.arraycopy(from.arrivalDays, 0, arrivalDays, 0, MAX_ARRIVALS);
        }

        int stockOf(int part) {
            return isInside(part, MAX_PARTS) ? stocks[part] : 0;
        }

        int reservedOf(int part) {
            return isInside(part, MAX_PARTS) ? reservations[part] : 0;
        }

        int freeOf(int part) {
            return stockOf(part) - reservedOf(part);
        }

        void fillFree(int[] row) {
            for (int part = 0; part < row.length; part++) {
                row[part] = freeOf(part);
            }
        }

        void setStock(int part, int pieces) {
            if (isInside(part, MAX_PARTS)) {
                stocks[part] = pieces;
            }
        }

        void addReserved(int part, int pieces) {
            if (isInside(part, MAX_PARTS)) {
                reservations[part] += pieces;
            }
        }

        int addArrival(int part, int pieces, int leadTime) {
            int arrivalDay = today + leadTime;
            if (arrivalCount < MAX_ARRIVALS) {
                arrivalParts[arrivalCount] = part;
                arrivalPieces[arrivalCount] = pieces;
                arrivalDays[arrivalCount] = arrivalDay;
                arrivalCount++;
            }
            return arrivalDay;
        }

        /** Lets one day pass; answers the number of arrivals that came. */
        int passDay() {
            today++;
            int kept = 0;
            for (int arrival = 0; arrival < arrivalCount; arrival++) {
                if (arrivalDays[arrival] == today) {
                    int part = arrivalParts[arrival];
                    setStock(part, stockOf(part) + arrivalPieces[arrival]);
                } else {
                    arrivalParts[kept] = arrivalParts[arrival];
                    arrivalPieces[kept] = arrivalPieces[arrival];
                    arrivalDays[kept] = arrivalDays[arrival];
                    kept++;
                }
            }
            int came = arrivalCount - kept;
            arrivalCount = kept;
            return came;
        }

        int allArriving(int part) {
            return arrivingUntil(part, today + MAX_LEAD_TIME);
        }

        private int arrivingUntil(int part, int lastDay) {
            int sum = 0;
            for (int arrival = 0; arrival < arrivalCount; arrival++) {
                if (arrivalParts[arrival] == part && arrivalDays[arrival] <= lastDay) {
                    sum += arrivalPieces[arrival];
                }
            }
            return sum;
        }

        int earliestArrival(int part) {
            int earliest = NONE;
            for (int arrival = 0; arrival < arrivalCount; arrival++) {
                if (arrivalParts[arrival] == part
                        && (earliest == NONE || arrivalDays[arrival] < earliest)) {
                    earliest = arrivalDays[arrival];
                }
            }
            return earliest;
        }

        /** The day of the part for so many pieces, as the promise dates use it. */
        int dayFor(int part, int pieces, int leadTime) {
            int lacking = pieces - freeOf(part);
            if (lacking <= 0) {
                return today;
            }
            int earliest = today + leadTime;
            for (int arrival = 0; arrival < arrivalCount; arrival++) {
                int arrivalDay = arrivalDays[arrival];
                if (arrivalDay < earliest && arrivingUntil(part, arrivalDay) >= lacking) {
                    earliest = arrivalDay;
                }
            }
            return earliest;
        }
    }

    /** The orders, a column for each of their properties. */
    private static final class OrderBook {
        int size;
        private final int[] products = new int[MAX_ORDERS];
        private final int[] quantities = new int[MAX_ORDERS];
        private final int[] classes = new int[MAX_ORDERS];
        private final int[] dues = new int[MAX_ORDERS];
        private final boolean[] wholes = new boolean[MAX_ORDERS];
        private final boolean[] cancellations = new boolean[MAX_ORDERS];
        private final int[] reservations = new int[MAX_ORDERS];
        private final int[] shipped = new int[MAX_ORDERS];

        void copyFrom(OrderBook from) {
            size = from.size;
            System.arraycopy(from.products, 0, products, 0, MAX_ORDERS);
            System.arraycopy(from.quantities, 0, quantities, 0, MAX_ORDERS);
            System.arraycopy(from.classes, 0, classes, 0, MAX_ORDERS);
            System.arraycopy(from.dues, 0, dues, 0, MAX_ORDERS);
            System.arraycopy(from.reservations, 0, reservations, 0, MAX_ORDERS);
            System.arraycopy(from.shipped, 0, shipped, 0, MAX_ORDERS);
            // The library's copying is for arrays of numbers alone.
            for (int order = 0; order < MAX_ORDERS; order++) {
                wholes[order] = from.wholes[order];
                cancellations[order] = from.cancellations[order];
            }
        }

        int enter(int product, int units, int level, int due, boolean whole) {
            if (size >= MAX_ORDERS) {
                return NONE;
            }
            products[size] = product;
            quantities[size] = units;
            classes[size] = level;
            dues[size] = due;
            wholes[size] = whole;
            cancellations[size] = false;
            reservations[size] = 0;
            shipped[size] = 0;
            size++;
            return size - 1;
        }

        int productOf(int order) {
            return isInside(order, size) ? products[order] : NONE;
        }

        int quantityOf(int order) {
            return isInside(order, size) ? quantities[order] : 0;
        }

        int classOf(int order) {
            return isInside(order, size) ? classes[order] : NONE;
        }

        int dueOf(int order) {
            return isInside(order, size) ? dues[order] : 0;
        }

        boolean isWhole(int order) {
            return isInside(order, size) && wholes[order];
        }

        int reservedOf(int order) {
            return isInside(order, size) ? reservations[order] : 0;
        }

        int shippedOf(int order) {
            return isInside(order, size) ? shipped[order] : 0;
        }

        int openOf(int order) {
            if (!isInside(order, size) || cancellations[order]) {
                return 0;
            }
            return quantities[order] - reservations[order] - shipped[order];
        }

        int stateFor(int order) {
            if (isInside(order, size) && cancellations[order]) {
                return CANCELLED;
            }
            if (openOf(order) > 0) {
                return OPEN;
            }
            return reservedOf(order) > 0 ? RESERVED : DONE;
        }

        /** Whether so many units of the order may be reserved or released at once. */
        boolean mayMove(int order, int units) {
            return !isWhole(order) || units == quantityOf(order);
        }

        void addReserved(int order, int units) {
            if (isInside(order, size)) {
                reservations[order] += units;
            }
        }

        void addShipped(int order, int units) {
            if (isInside(order, size)) {
                shipped[order] += units;
            }
        }

        void markCancelled(int order) {
            if (isInside(order, size)) {
                cancellations[order] = true;
            }
        }

        /** Fills the row with the numbers of the orders as an allocation takes them in turn. */
        void fillTurns(int[] turns) {
            for (int order = 0; order < size && order < turns.length; order++) {
                int place = order;
                while (place > 0 && isServedBefore(order, turns[place - 1])) {
                    turns[place] = turns[place - 1];
                    place--;
                }
                turns[place] = order;
            }
        }

        private boolean isServedBefore(int order, int other) {
            if (dueOf(order) != dueOf(other)) {
                return dueOf(order) < dueOf(other);
            }
            return classOf(order) > classOf(other);
        }

        /** The order that loses reserved units of the part first; NONE if no order has any. */
        int firstToLose(Catalog catalog, int part) {
            int loser = NONE;
            for (int order = 0; order < size; order++) {
                boolean holds = reservedOf(order) > 0 && catalog.needOf(productOf(order), part) > 0;
                if (holds && (loser == NONE || losesBefore(order, loser))) {
                    loser = order;
                }
            }
            return loser;
        }

        // Asked with rising numbers, so of equal orders the later one, with the higher number, loses.
        private boolean losesBefore(int order, int other) {
            if (classOf(order) != classOf(other)) {
                return classOf(order) < classOf(other);
            }
            return dueOf(order) >= dueOf(other);
        }
    }

    /** The latest shipments and the totals. */
    private static final class ShipmentLog {
        private static final int SHIPMENTS = 0;
        private static final int UNITS = 1;
        private static final int LATE_UNITS = 2;
        private static final int LATE_DAYS = 3;
        private static final int BOUGHT = 4;

        private final int[] totals = new int[TOTALS];
        private final int[] orders = new int[LOG_SIZE];
        private final int[] units = new int[LOG_SIZE];
        private final int[] days = new int[LOG_SIZE];

        void clear() {
            Arrays.fill(totals, 0);
        }

        void copyFrom(ShipmentLog from) {
            System.arraycopy(from.totals, 0, totals, 0, TOTALS);
            System.arraycopy(from.orders, 0, orders, 0, LOG_SIZE);
            System.arraycopy(from.units, 0, units, 0, LOG_SIZE);
            System.arraycopy(from.days, 0, days, 0, LOG_SIZE);
        }

        void addShipment(int order, int count, int day, int due) {
            int place = Math.floorMod(totals[SHIPMENTS], LOG_SIZE);
            orders[place] = order;
            units[place] = count;
            days[place] = day;
            totals[SHIPMENTS]++;
            totals[UNITS] += count;
            if (day > due) {
                totals[LATE_UNITS] += count;
                totals[LATE_DAYS] += count * (day - due);
            }
        }

        void addBought(int pieces) {
            totals[BOUGHT] += pieces;
        }

        int totalOf(int what) {
            return isInside(what, TOTALS) ? totals[what] : NONE;
        }

        int entry(int ago, int what) {
            if (!isInside(ago, Math.min(totals[SHIPMENTS], LOG_SIZE))) {
                return NONE;
            }
            int place = Math.floorMod(totals[SHIPMENTS] - 1 - ago, LOG_SIZE);
            switch (what) {
                case 0: return orders[place];
                case 1: return units[place];
                case 2: return days[place];
                default: return NONE;
            }
        }
    }

    /** Everything that actions change and that undoing restores. */
    private static final class Ledger {
        final Warehouse warehouse = new Warehouse();
        final OrderBook orders = new OrderBook();
        final ShipmentLog log = new ShipmentLog();

        void clear() {
            warehouse.clear();
            orders.size = 0;
            log.clear();
        }

        void copyFrom(Ledger from) {
            warehouse.copyFrom(from.warehouse);
            orders.copyFrom(from.orders);
            log.copyFrom(from.log);
        }

        int openPieces(Catalog catalog, int part) {
            int sum = 0;
            for (int order = 0; order < orders.size; order++) {
                sum += orders.openOf(order) * catalog.needOf(orders.productOf(order), part);
            }
            return sum;
        }

        /** Reserves units of an order, or releases them if units is negative. */
        void changeReserved(Catalog catalog, int order, int units) {
            int product = orders.productOf(order);
            orders.addReserved(order, units);
            for (int part = 0; part < catalog.partCount; part++) {
                warehouse.addReserved(part, units * catalog.needOf(product, part));
            }
        }

        int sendReserved(Catalog catalog, int order) {
            int product = orders.productOf(order);
            int units = orders.reservedOf(order);
            for (int part = 0; part < catalog.partCount; part++) {
                int pieces = units * catalog.needOf(product, part);
                warehouse.setStock(part, warehouse.stockOf(part) - pieces);
            }
            changeReserved(catalog, order, -units);
            orders.addShipped(order, units);
            log.addShipment(order, units, warehouse.today, orders.dueOf(order));
            return units;
        }

        /** Releases units until no more of the part is reserved than there is; answers how many. */
        int releaseExcess(Catalog catalog, int part) {
            int released = 0;
            for (int round = 0; round < MAX_ORDERS * MAX_UNITS && warehouse.freeOf(part) < 0; round++) {
                int order = orders.firstToLose(catalog, part);
                if (order == NONE) {
                    return released;
                }
                int units = orders.isWhole(order) ? orders.reservedOf(order) : 1;
                changeReserved(catalog, order, -units);
                released += units;
            }
            return released;
        }
    }

    /** The ledger as it was before each of the last recorded actions, in a ring. */
    private static final class History {
        int depth;
        private int next;
        private final Ledger[] ring = new Ledger[MAX_UNDO];

        History() {
            for (int place = 0; place < MAX_UNDO; place++) {
                ring[place] = new Ledger();
            }
        }

        void forget() {
            depth = 0;
        }

        void record(Ledger ledger) {
            Ledger row = ring[Math.floorMod(next, MAX_UNDO)];
            if (row != null) {
                row.copyFrom(ledger);
                next = Math.floorMod(next + 1, MAX_UNDO);
                depth = Math.min(depth + 1, MAX_UNDO);
            }
        }

        boolean takeBack(Ledger ledger) {
            int latest = Math.floorMod(next - 1, MAX_UNDO);
            Ledger row = ring[latest];
            if (depth == 0 || row == null) {
                return false;
            }
            ledger.copyFrom(row);
            next = latest;
            depth--;
            return true;
        }
    }

    /** Works out what an allocation would reserve; it changes its own rows alone. */
    private static final class Allocation {
        private final int[] left = new int[MAX_PARTS];
        private final int[] quotas = new int[MAX_PARTS];
        private final int[] turns = new int[MAX_ORDERS];
        private final int[] grants = new int[MAX_ORDERS];
        private final int[] firstRungs = new int[MAX_ORDERS];
        private final int[] rungSums = new int[MAX_RUNGS];

        void tryOut(Catalog catalog, Ledger ledger) {
            begin(ledger);
            for (int rung = 0; rung < catalog.rungCount; rung++) {
                setQuotas(catalog.shareOf(rung));
                for (int turn = 0; turn < ledger.orders.size && turn < MAX_ORDERS; turn++) {
                    if (catalog.rungTakes(rung, ledger.orders.classOf(turns[turn]))) {
                        serve(catalog, ledger.orders, turns[turn], rung);
                    }
                }
            }
        }

        private void begin(Ledger ledger) {
            ledger.warehouse.fillFree(left);
            ledger.orders.fillTurns(turns);
            Arrays.fill(grants, 0);
            Arrays.fill(firstRungs, NONE);
            Arrays.fill(rungSums, 0);
        }

        private void setQuotas(int share) {
            for (int part = 0; part < MAX_PARTS; part++) {
                quotas[part] = left[part] * share / FULL_SHARE;
            }
        }

        private void serve(Catalog catalog, OrderBook orders, int order, int rung) {
            int product = orders.productOf(order);
            int open = orders.openOf(order) - grantOf(order);
            int units = Math.min(open, catalog.mostUnits(product, quotas));
            boolean enough = units == open || !orders.isWhole(order);
            if (units > 0 && enough && isInside(order, MAX_ORDERS) && isInside(rung, MAX_RUNGS)) {
                catalog.takePieces(product, units, quotas);
                catalog.takePieces(product, units, left);
                grants[order] += units;
                rungSums[rung] += units;
                firstRungs[order] = firstRungs[order] == NONE ? rung : firstRungs[order];
            }
        }

        int grantOf(int order) {
            return isInside(order, MAX_ORDERS) ? grants[order] : 0;
        }

        int firstRungOf(int order) {
            return isInside(order, MAX_ORDERS) ? firstRungs[order] : NONE;
        }

        int unitsInRung(int rung) {
            return isInside(rung, MAX_RUNGS) ? rungSums[rung] : 0;
        }

        /** The orders that get all of their open units if each takes all or none in turn. */
        int coveredSet(Catalog catalog, Ledger ledger) {
            begin(ledger);
            int set = 0;
            for (int turn = 0; turn < ledger.orders.size && turn < MAX_ORDERS; turn++) {
                int order = turns[turn];
                int product = ledger.orders.productOf(order);
                int open = ledger.orders.openOf(order);
                if (open > 0 && open <= catalog.mostUnits(product, left)) {
                    catalog.takePieces(product, open, left);
                    set |= 1 << order;
                }
            }
            return set;
        }
    }

    /** The buffer of the input text. */
    private static final class InputText {
        int length;
        private final byte[] bytes = new byte[MAX_TEXT];

        boolean hasRoomFor(int more) {
            return length + more <= MAX_TEXT;
        }

        void putWord(int word) {
            for (int shift = 24; shift >= 0; shift -= 8) {
                if (isInside(length, MAX_TEXT)) {
                    bytes[length] = (byte) (word >>> shift);
                    length++;
                }
            }
        }

        boolean shorten(int newLength) {
            if (newLength < 0 || newLength > length) {
                return false;
            }
            length = newLength;
            return true;
        }

        int signAt(int offset) {
            return offset >= 0 && offset < length && offset < MAX_TEXT ? bytes[offset] & 255 : NONE;
        }
    }

    /** Cuts the input text into tokens, one at a time. */
    private static final class Tokens {
        static final int END = 0;
        static final int WORD = 1;
        static final int NUMBER = 2;
        static final int SIGN = 3;

        int kind;
        int start;
        final InputText text = new InputText();
        private int end;

        void restart() {
            end = 0;
            step();
        }

        /** Goes on to the next token. */
        void step() {
            start = end;
            while (start < text.length && isSpace(text.signAt(start))) {
                start++;
            }
            kind = kindOf(text.signAt(start));
            end = start;
            boolean longest = kind == WORD || kind == NUMBER;
            while (longest && end < text.length && kindOf(text.signAt(end)) == kind) {
                end++;
            }
            if (kind == SIGN) {
                end = start + 1;
            }
        }

        private static boolean isSpace(int sign) {
            return sign == ' ' || sign == '\t' || sign == '\n';
        }

        private static int kindOf(int sign) {
            if (sign == NONE) {
                return END;
            }
            if (sign >= 'a' && sign <= 'z') {
                return WORD;
            }
            return sign >= '0' && sign <= '9' ? NUMBER : SIGN;
        }

        boolean isWord(String word) {
            if (kind != WORD || end - start != word.length()) {
                return false;
            }
            for (int index = 0; index < word.length(); index++) {
                if (text.signAt(start + index) != word.charAt(index)) {
                    return false;
                }
            }
            return true;
        }

        boolean isSemicolon() {
            return kind == SIGN && text.signAt(start) == ';';
        }

        boolean isName() {
            return kind == WORD && end - start <= MAX_NAME;
        }

        /** The letters of the name, a byte each, so that equal names are equal numbers. */
        long name() {
            long letters = 0;
            for (int offset = start; offset < end; offset++) {
                letters = letters << 8 | text.signAt(offset);
            }
            return letters;
        }

        /** The value of the number; NONE if it has too many digits. */
        int value() {
            if (end - start > MAX_DIGITS) {
                return NONE;
            }
            int value = 0;
            for (int offset = start; offset < end; offset++) {
                value = value * 10 + text.signAt(offset) - '0';
            }
            return value;
        }
    }

    /** Reads a text, line by line, up to its end or its first error. */
    private static final class Parser {
        int failOffset = NONE;
        int failKind;
        final Tokens tokens = new Tokens();
        // Drafts of its own, so that a wrong text leaves everything else as it is.
        private Catalog catalog = new Catalog();
        private Ledger ledger = new Ledger();

        void begin() {
            catalog.clear();
            ledger.clear();
            failOffset = NONE;
            failKind = 0;
            tokens.restart();
        }

        boolean hasLine() {
            return tokens.kind != Tokens.END;
        }

        /** Answers what was read, and takes the old catalog to read the next text into. */
        Catalog swapCatalog(Catalog old) {
            Catalog read = catalog;
            if (read.rungCount == 0) {
                read.addRung(0, MAX_CLASS, FULL_SHARE);
            }
            catalog = old;
            return read;
        }

        Ledger swapLedger(Ledger old) {
            Ledger read = ledger;
            ledger = old;
            return read;
        }

        /** Reads a line; false, and the error is set, if it is wrong. */
        boolean readLine() {
            if (tokens.isWord("part")) {
                return catalog.partCount < MAX_PARTS ? readPart() : fail(TOO_MANY);
            }
            if (tokens.isWord("product")) {
                return catalog.productCount < MAX_PRODUCTS ? readProduct() : fail(TOO_MANY);
            }
            if (tokens.isWord("rung")) {
                return catalog.rungCount < MAX_RUNGS ? readRung() : fail(TOO_MANY);
            }
            if (tokens.isWord("order")) {
                return ledger.orders.size < MAX_ORDERS ? readOrder() : fail(TOO_MANY);
            }
            return fail(SYNTAX);
        }

        private boolean fail(int kind) {
            failOffset = tokens.start;
            failKind = kind;
            return false;
        }

        private boolean readSemicolon() {
            if (!tokens.isSemicolon()) {
                return fail(SYNTAX);
            }
            tokens.step();
            return true;
        }

        private boolean readPart() {
            tokens.step();
            if (!isNewName()) {
                return false;
            }
            long name = tokens.name();
            tokens.step();
            int stock = readNumber(0, MAX_STOCK);
            if (stock == NONE) {
                return false;
            }
            int leadTime = readNumber(1, MAX_LEAD_TIME);
            if (leadTime == NONE) {
                return false;
            }
            ledger.warehouse.setStock(catalog.partCount, stock);
            catalog.addPart(name, leadTime);
            return readSemicolon();
        }

        private boolean readProduct() {
            tokens.step();
            if (!isNewName()) {
                return false;
            }
            catalog.beginProduct(tokens.name());
            tokens.step();
            boolean right = readBillLine();
            for (int line = 1; line <= MAX_LINES && right && tokens.kind == Tokens.NUMBER; line++) {
                right = readBillLine();
            }
            if (!right) {
                return false;
            }
            catalog.endProduct();
            return readSemicolon();
        }

        private boolean readBillLine() {
            if (tokens.kind == Tokens.NUMBER && catalog.linesOfBegun() >= MAX_LINES) {
                return fail(TOO_MANY);
            }
            int quantity = readNumber(1, MAX_LINE_QUANTITY);
            if (quantity == NONE) {
                return false;
            }
            if (!tokens.isName()) {
                return fail(SYNTAX);
            }
            int item = catalog.itemNamed(tokens.name());
            if (item == NONE || catalog.begunHas(item)) {
                return fail(BAD_NAME);
            }
            if (!catalog.begunCanHold(item, quantity)) {
                return fail(TOO_MUCH);
            }
            catalog.addLine(item, quantity);
            tokens.step();
            return true;
        }

        private boolean readRung() {
            tokens.step();
            int low = readNumber(0, MAX_CLASS);
            if (low == NONE) {
                return false;
            }
            int high = readNumber(low, MAX_CLASS);
            if (high == NONE) {
                return false;
            }
            int share = readNumber(1, FULL_SHARE);
            if (share == NONE) {
                return false;
            }
            catalog.addRung(low, high, share);
            return readSemicolon();
        }

        private boolean readOrder() {
            tokens.step();
            if (!tokens.isName()) {
                return fail(SYNTAX);
            }
            int product = catalog.productNamed(tokens.name());
            if (product == NONE) {
                return fail(BAD_NAME);
            }
            tokens.step();
            int units = readNumber(1, MAX_UNITS);
            if (units == NONE) {
                return false;
            }
            int level = readNumber(0, MAX_CLASS);
            if (level == NONE) {
                return false;
            }
            int due = readNumber(0, MAX_DUE);
            if (due == NONE) {
                return false;
            }
            boolean whole = tokens.isWord("whole");
            if (whole) {
                tokens.step();
            }
            ledger.orders.enter(product, units, level, due, whole);
            return readSemicolon();
        }

        // Stays at the name, for its letters are wanted next.
        private boolean isNewName() {
            if (!tokens.isName()) {
                return fail(SYNTAX);
            }
            return catalog.itemNamed(tokens.name()) == NONE || fail(BAD_NAME);
        }

        /** The number at which the text stands; NONE, and the error is set, if it is not a right one. */
        private int readNumber(int low, int high) {
            if (tokens.kind != Tokens.NUMBER) {
                fail(SYNTAX);
                return NONE;
            }
            int value = tokens.value();
            if (value < low || value > high) {
                fail(BAD_NUMBER);
                return NONE;
            }
            tokens.step();
            return value;
        }
    }

    /** The formatted text. */
    private static final class FormattedText {
        int length;
        private final byte[] bytes = new byte[MAX_FORMATTED];

        void begin(long name) {
            length = 0;
            putName(name);
        }

        int byteAt(int index) {
            return isInside(index, length) && index < MAX_FORMATTED ? bytes[index] : NONE;
        }

        private void put(int sign) {
            if (isInside(length, MAX_FORMATTED)) {
                bytes[length] = (byte) sign;
                length++;
            }
        }

        void putName(long name) {
            for (int shift = 56; shift >= 0; shift -= 8) {
                int letter = (int) (name >>> shift) & 255;
                if (letter != 0) {
                    put(letter);
                }
            }
        }

        void putText(String text) {
            for (int index = 0; index < text.length(); index++) {
                put(text.charAt(index));
            }
        }

        void putNumbered(String text, int number) {
            putText(text);
            boolean begun = false;
            for (int power = 1000000000; power > 0; power /= 10) {
                int digit = number / power % 10;
                begun = begun || digit != 0 || power == 1;
                if (begun) {
                    put('0' + digit);
                }
            }
        }
    }
}
