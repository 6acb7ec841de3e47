import java.nio.charset.StandardCharsets;
import java.util.ArrayDeque;
import java.util.ArrayList;
import java.util.Arrays;
import java.util.Comparator;
import java.util.Deque;
import java.util.List;
import java.util.function.IntPredicate;
import java.util.stream.Collectors;
import java.util.stream.IntStream;

/**
 * The document once more, in the slowest and plainest way: reserved quantities are summed up from the
 * orders, the best mix of two products is found by trying all, and undoing keeps whole copies. The
 * random runs hold the class against it. Its methods have the names of the class's.
 */
public final class Model {
    private record Part(String name, int stock, int lead) { }

    private record Line(boolean isPart, int item, int quantity) { }

    private record Product(String name, List<Line> lines) { }

    private record Rung(int low, int high, int share) { }

    private record Arrival(int part, int day, int pieces) { }

    private record Shipment(int order, int units, int day) { }

    private static final class Order {
        int product;
        int quantity;
        int level;
        int due;
        boolean whole;
        boolean cancelled;
        int reserved;
        int shipped;

        int open() {
            return cancelled ? 0 : quantity - reserved - shipped;
        }

        Order copy() {
            Order copy = new Order();
            copy.product = product;
            copy.quantity = quantity;
            copy.level = level;
            copy.due = due;
            copy.whole = whole;
            copy.cancelled = cancelled;
            copy.reserved = reserved;
            copy.shipped = shipped;
            return copy;
        }
    }

    private static final class State {
        int day;
        int bought;
        List<Integer> stock = new ArrayList<>();
        List<Arrival> arrivals = new ArrayList<>();
        List<Order> orders = new ArrayList<>();
        List<Shipment> shipments = new ArrayList<>();
        List<Integer> lateness = new ArrayList<>();

        State copy() {
            State copy = new State();
            copy.day = day;
            copy.bought = bought;
            copy.stock = new ArrayList<>(stock);
            copy.arrivals = new ArrayList<>(arrivals);
            copy.orders = orders.stream().map(Order::copy).collect(Collectors.toCollection(ArrayList::new));
            copy.shipments = new ArrayList<>(shipments);
            copy.lateness = new ArrayList<>(lateness);
            return copy;
        }
    }

    private static final class TextError extends Exception {
        private static final long serialVersionUID = 1;
        final int offset;
        final int kind;

        TextError(int offset, int kind) {
            this.offset = offset;
            this.kind = kind;
        }
    }

    private List<Part> parts = new ArrayList<>();
    private List<Product> products = new ArrayList<>();
    private List<Rung> rungs = new ArrayList<>(List.of(new Rung(0, 9, 100)));
    private State now = new State();
    private final Deque<State> past = new ArrayDeque<>();
    private String buffer = "";
    private String formatted = "";
    private int errorOffset = -1;
    private int errorKind = 0;

    // ---- input

    public int append(int w0, int w1, int w2, int w3, int w4) {
        if (buffer.length() > 880) {
            return -1;
        }
        for (int word : new int[] {w0, w1, w2, w3, w4}) {
            byte[] four = {(byte) (word >> 24), (byte) (word >> 16), (byte) (word >> 8), (byte) word};
            buffer += new String(four, StandardCharsets.ISO_8859_1);
        }
        return buffer.length();
    }

    public boolean truncate(int length) {
        if (length < 0 || length > buffer.length()) {
            return false;
        }
        buffer = buffer.substring(0, length);
        return true;
    }

    public int load() {
        String text = buffer;
        buffer = "";
        errorOffset = -1;
        errorKind = 0;
        try {
            new Reader(text).readAll();
        } catch (TextError error) {
            errorOffset = error.offset;
            errorKind = error.kind;
            throw new IllegalArgumentException();
        }
        past.clear();
        return products.size();
    }

    public int errorOffset() {
        return errorOffset;
    }

    public int errorKind() {
        return errorKind;
    }

    private final class Reader {
        private final String text;
        private int position;
        private final List<Part> newParts = new ArrayList<>();
        private final List<Product> newProducts = new ArrayList<>();
        private final List<Rung> newRungs = new ArrayList<>();
        private final List<Order> newOrders = new ArrayList<>();

        Reader(String text) {
            this.text = text;
        }

        void readAll() throws TextError {
            while (!peek().isEmpty()) {
                readLine();
                if (!peek().equals(";")) {
                    throw error(1);
                }
                take();
            }
            parts = newParts;
            products = newProducts;
            rungs = newRungs.isEmpty() ? List.of(new Rung(0, 9, 100)) : newRungs;
            now = new State();
            newParts.forEach(part -> now.stock.add(part.stock()));
            now.orders = newOrders;
        }

        private void readLine() throws TextError {
            String keyword = peek();
            int count = switch (keyword) {
                case "part" -> 12 - newParts.size();
                case "product" -> 8 - newProducts.size();
                case "rung" -> 6 - newRungs.size();
                case "order" -> 20 - newOrders.size();
                default -> throw error(1);
            };
            if (count == 0) {
                throw error(4);
            }
            take();
            switch (keyword) {
                case "part" -> newParts.add(new Part(freshName(), number(0, 9999), number(1, 60)));
                case "product" -> newProducts.add(product());
                case "rung" -> {
                    int low = number(0, 9);
                    newRungs.add(new Rung(low, number(low, 9), number(1, 100)));
                }
                default -> newOrders.add(order());
            }
        }

        private Product product() throws TextError {
            Product product = new Product(freshName(), new ArrayList<>());
            do {
                if (product.lines().size() == 6 && peek().matches("[0-9]+")) {
                    throw error(4);
                }
                int quantity = number(1, 20);
                String name = nameAhead();
                int part = indexOf(newParts.stream().map(Part::name).toList(), name);
                int nested = indexOf(newProducts.stream().map(Product::name).toList(), name);
                Line line = new Line(part >= 0, Math.max(part, nested), quantity);
                boolean twice = product.lines().stream()
                    .anyMatch(old -> old.isPart() == line.isPart() && old.item() == line.item());
                if (part < 0 && nested < 0 || twice) {
                    throw error(3);
                }
                product.lines().add(line);
                for (int each = 0; each < newParts.size(); each++) {
                    if (needIn(newProducts, product, each) > 9999) {
                        throw error(5);
                    }
                }
                take();
            } while (peek().matches("[0-9]+"));
            return product;
        }

        private Order order() throws TextError {
            Order order = new Order();
            order.product = indexOf(newProducts.stream().map(Product::name).toList(), nameAhead());
            if (order.product < 0) {
                throw error(3);
            }
            take();
            order.quantity = number(1, 99);
            order.level = number(0, 9);
            order.due = number(0, 999);
            order.whole = peek().equals("whole");
            if (order.whole) {
                take();
            }
            return order;
        }

        private int indexOf(List<String> names, String name) {
            return names.indexOf(name);
        }

        private String nameAhead() throws TextError {
            if (!peek().matches("[a-z]{1,8}")) {
                throw error(1);
            }
            return peek();
        }

        private String freshName() throws TextError {
            String name = nameAhead();
            if (newParts.stream().anyMatch(part -> part.name().equals(name))
                || newProducts.stream().anyMatch(product -> product.name().equals(name))) {
                throw error(3);
            }
            return take();
        }

        private int number(int low, int high) throws TextError {
            if (!peek().matches("[0-9]+")) {
                throw error(1);
            }
            if (peek().length() > 4 || Integer.parseInt(peek()) < low || Integer.parseInt(peek()) > high) {
                throw error(2);
            }
            return Integer.parseInt(take());
        }

        private TextError error(int kind) {
            peek();
            return new TextError(position, kind);
        }

        private String take() {
            String token = peek();
            position += token.length();
            return token;
        }

        /** The token ahead, with the position at its first byte; empty at the end. */
        private String peek() {
            while (position < text.length() && " \t\n".indexOf(text.charAt(position)) >= 0) {
                position++;
            }
            if (position == text.length()) {
                return "";
            }
            for (String run : List.of("[a-z]", "[0-9]")) {
                int end = position;
                while (end < text.length() && text.substring(end, end + 1).matches(run)) {
                    end++;
                }
                if (end > position) {
                    return text.substring(position, end);
                }
            }
            return text.substring(position, position + 1);
        }
    }

    // ---- bills of material

    private static int needIn(List<Product> all, Product product, int part) {
        int sum = 0;
        for (Line line : product.lines()) {
            int each = line.isPart() ? (line.item() == part ? 1 : 0)
                : needIn(all, all.get(line.item()), part);
            sum += line.quantity() * each;
        }
        return sum;
    }

    private int needOf(int product, int part) {
        return needIn(products, products.get(product), part);
    }

    private static int bits(int count, IntPredicate isMember) {
        return IntStream.range(0, count).filter(isMember).map(k -> 1 << k).sum();
    }

    private static void check(int index, List<?> list) {
        if (index < 0 || index >= list.size()) {
            throw new IndexOutOfBoundsException();
        }
    }

    private static void argument(boolean right) {
        if (!right) {
            throw new IllegalArgumentException();
        }
    }

    private static void state(boolean right) {
        if (!right) {
            throw new IllegalStateException();
        }
    }

    public int count(int what) {
        List<List<?>> all = List.of(parts, products, now.orders, rungs, now.arrivals);
        return what < 0 || what > 4 ? -1 : all.get(what).size();
    }

    public int lineCount(int product) {
        check(product, products);
        return products.get(product).lines().size();
    }

    private Line lineOrNull(int product, int line) {
        List<Line> lines = products.get(product).lines();
        return line < 0 || line >= lines.size() ? null : lines.get(line);
    }

    public int lineItem(int product, int line) {
        check(product, products);
        Line found = lineOrNull(product, line);
        return found == null ? -1 : found.item() + (found.isPart() ? 0 : 100);
    }

    public int lineQuantity(int product, int line) {
        check(product, products);
        Line found = lineOrNull(product, line);
        return found == null ? -1 : found.quantity();
    }

    public int need(int product, int part) {
        check(product, products);
        check(part, parts);
        return needOf(product, part);
    }

    public int level(int product) {
        check(product, products);
        return 1 + products.get(product).lines().stream()
            .filter(line -> !line.isPart()).mapToInt(line -> level(line.item())).max().orElse(0);
    }

    public int pieces(int product) {
        check(product, products);
        return IntStream.range(0, parts.size()).map(part -> needOf(product, part)).sum();
    }

    public int usedBy(int part) {
        check(part, parts);
        return bits(products.size(), product -> needOf(product, part) > 0);
    }

    public int commonParts(int product, int other) {
        check(product, products);
        check(other, products);
        return bits(parts.size(), part -> needOf(product, part) > 0 && needOf(other, part) > 0);
    }

    // ---- stock

    private int reservedPieces(int part) {
        return now.orders.stream().mapToInt(order -> order.reserved * needOf(order.product, part)).sum();
    }

    private int free(int part) {
        return now.stock.get(part) - reservedPieces(part);
    }

    private int[] allFree() {
        return IntStream.range(0, parts.size()).map(this::free).toArray();
    }

    private int fitting(int product, int[] pieces) {
        return IntStream.range(0, parts.size()).filter(part -> needOf(product, part) > 0)
            .map(part -> pieces[part] / needOf(product, part)).min().orElse(0);
    }

    private int[] without(int product, int units, int[] pieces) {
        return IntStream.range(0, parts.size())
            .map(part -> pieces[part] - units * needOf(product, part)).toArray();
    }

    public int day() {
        return now.day;
    }

    public int stock(int part) {
        check(part, parts);
        return now.stock.get(part);
    }

    public int reserved(int part) {
        check(part, parts);
        return reservedPieces(part);
    }

    public int arriving(int part) {
        check(part, parts);
        return now.arrivals.stream().filter(a -> a.part() == part).mapToInt(Arrival::pieces).sum();
    }

    public int nextArrival(int part) {
        check(part, parts);
        return now.arrivals.stream().filter(a -> a.part() == part).mapToInt(Arrival::day).min().orElse(-1);
    }

    public int buildable(int product) {
        check(product, products);
        return fitting(product, allFree());
    }

    public int bottleneck(int product) {
        check(product, products);
        return IntStream.range(0, parts.size()).filter(part -> needOf(product, part) > 0).boxed()
            .min(Comparator.comparing(part -> free(part) / needOf(product, part))).orElseThrow();
    }

    public int buildableTogether(int product, int other) {
        check(product, products);
        check(other, products);
        argument(product != other);
        int[] left = allFree();
        int[] first = IntStream.range(0, parts.size()).map(part -> needOf(product, part)).toArray();
        int[] second = IntStream.range(0, parts.size()).map(part -> needOf(other, part)).toArray();
        int best = 0;
        for (int units = 0; Arrays.stream(left).allMatch(pieces -> pieces >= 0); units++) {
            int others = Integer.MAX_VALUE;
            for (int part = 0; part < left.length; part++) {
                others = second[part] == 0 ? others : Math.min(others, left[part] / second[part]);
            }
            best = Math.max(best, units + others);
            for (int part = 0; part < left.length; part++) {
                left[part] -= first[part];
            }
        }
        return best;
    }

    // ---- orders

    public int stateOf(int order) {
        check(order, now.orders);
        Order one = now.orders.get(order);
        if (one.cancelled) {
            return 3;
        }
        return one.shipped == one.quantity ? 2 : one.open() > 0 ? 0 : 1;
    }

    public int openUnits(int order) {
        check(order, now.orders);
        return now.orders.get(order).open();
    }

    public int reservedUnits(int order) {
        check(order, now.orders);
        return now.orders.get(order).reserved;
    }

    public int shippedUnits(int order) {
        check(order, now.orders);
        return now.orders.get(order).shipped;
    }

    public int orderField(int order, int what) {
        check(order, now.orders);
        Order one = now.orders.get(order);
        return switch (what) {
            case 0 -> one.product;
            case 1 -> one.quantity;
            case 2 -> one.level;
            case 3 -> one.due;
            case 4 -> one.whole ? 1 : 0;
            default -> -1;
        };
    }

    public int missing(int order, int part) {
        check(order, now.orders);
        check(part, parts);
        Order one = now.orders.get(order);
        return Math.max(0, one.open() * needOf(one.product, part) - free(part));
    }

    private int wanted(int part) {
        return now.orders.stream().mapToInt(order -> order.open() * needOf(order.product, part)).sum();
    }

    public int toBuy(int part) {
        check(part, parts);
        return Math.max(0, wanted(part) - free(part) - arriving(part));
    }

    public int scarcestPart() {
        int most = IntStream.range(0, parts.size()).map(this::toBuy).max().orElse(0);
        return most == 0 ? -1 : IntStream.range(0, parts.size()).filter(p -> toBuy(p) == most).min().getAsInt();
    }

    // ---- promise dates and trials

    private int dayOf(int part, int pieces) {
        int last = now.day + parts.get(part).lead();
        for (int day = now.day; day < last; day++) {
            int until = day;
            int came = now.arrivals.stream().filter(a -> a.part() == part && a.day() <= until)
                .mapToInt(Arrival::pieces).sum();
            if (free(part) + came >= pieces) {
                return day;
            }
        }
        return free(part) >= pieces ? now.day : last;
    }

    private int date(int product, int units) {
        return IntStream.range(0, parts.size()).filter(part -> needOf(product, part) > 0)
            .map(part -> dayOf(part, units * needOf(product, part))).max().orElseThrow();
    }

    public int promise(int product, int units) {
        check(product, products);
        argument(units >= 1 && units <= 999);
        return date(product, units);
    }

    public int promiseOf(int order) {
        int state = stateOf(order);
        Order one = now.orders.get(order);
        return state >= 2 ? -1 : state == 1 ? now.day : date(one.product, one.open());
    }

    public int delayingPart(int order) {
        check(order, now.orders);
        Order one = now.orders.get(order);
        if (one.open() == 0) {
            return -1;
        }
        int latest = date(one.product, one.open());
        return IntStream.range(0, parts.size()).filter(part -> needOf(one.product, part) > 0)
            .filter(part -> dayOf(part, one.open() * needOf(one.product, part)) == latest)
            .min().getAsInt();
    }

    public int lateOrders() {
        return bits(now.orders.size(), k -> openUnits(k) > 0 && promiseOf(k) > now.orders.get(k).due);
    }

    private List<Integer> inTurn(List<Order> orders) {
        return IntStream.range(0, orders.size()).boxed()
            .sorted(Comparator.comparing((Integer k) -> orders.get(k).due)
                .thenComparing(k -> -orders.get(k).level).thenComparing(k -> k)).toList();
    }

    /** What each rung would give each order. */
    private int[][] trial() {
        int[][] given = new int[rungs.size()][now.orders.size()];
        int[] free = allFree();
        for (int r = 0; r < rungs.size(); r++) {
            Rung rung = rungs.get(r);
            int[] quota = Arrays.stream(free).map(pieces -> pieces * rung.share() / 100).toArray();
            for (int k : inTurn(now.orders)) {
                Order order = now.orders.get(k);
                int open = order.open();
                for (int earlier = 0; earlier < r; earlier++) {
                    open -= given[earlier][k];
                }
                boolean belongs = rung.low() <= order.level && order.level <= rung.high() && open > 0;
                int units = belongs ? Math.min(open, fitting(order.product, quota)) : 0;
                units = order.whole && units < open ? 0 : units;
                quota = without(order.product, units, quota);
                free = without(order.product, units, free);
                given[r][k] = units;
            }
        }
        return given;
    }

    public int wouldGet(int order) {
        check(order, now.orders);
        return Arrays.stream(trial()).mapToInt(rung -> rung[order]).sum();
    }

    public int rungOf(int order) {
        check(order, now.orders);
        int[][] given = trial();
        return IntStream.range(0, rungs.size()).filter(r -> given[r][order] > 0).min().orElse(-1);
    }

    public int rungUnits(int rung) {
        check(rung, rungs);
        return Arrays.stream(trial()[rung]).sum();
    }

    public int missingPieces(int order) {
        check(order, now.orders);
        return IntStream.range(0, parts.size()).map(part -> missing(order, part)).sum();
    }

    public int buildableAfter(int product, int other, int units) {
        check(product, products);
        check(other, products);
        argument(product != other && units >= 0 && units <= 999);
        int[] left = without(other, units, allFree());
        return Arrays.stream(left).anyMatch(pieces -> pieces < 0) ? -1 : fitting(product, left);
    }

    public int coveredOrders() {
        int[] left = allFree();
        int set = 0;
        for (int k : inTurn(now.orders)) {
            Order order = now.orders.get(k);
            int[] then = without(order.product, order.open(), left);
            if (order.open() > 0 && Arrays.stream(then).allMatch(pieces -> pieces >= 0)) {
                set += 1 << k;
                left = then;
            }
        }
        return set;
    }

    public int promiseOfAll() {
        return IntStream.range(0, parts.size()).filter(part -> wanted(part) > 0)
            .map(part -> dayOf(part, wanted(part))).max().orElse(now.day);
    }

    // ---- actions

    private void record() {
        past.push(now.copy());
        if (past.size() > 12) {
            past.removeLast();
        }
    }

    public int addOrder(int product, int units, int level, int due, boolean whole) {
        check(product, products);
        argument(units >= 1 && units <= 99 && level >= 0 && level <= 9 && due >= 0 && due <= 999);
        state(now.orders.size() < 20);
        record();
        Order order = new Order();
        order.product = product;
        order.quantity = units;
        order.level = level;
        order.due = due;
        order.whole = whole;
        now.orders.add(order);
        return now.orders.size() - 1;
    }

    public int cancel(int order) {
        state(stateOf(order) < 2);
        record();
        Order one = now.orders.get(order);
        int released = one.reserved;
        one.reserved = 0;
        one.cancelled = true;
        return released;
    }

    public int reserve(int order, int units) {
        check(order, now.orders);
        argument(units >= 1);
        Order one = now.orders.get(order);
        state(units <= one.open());
        state(!one.whole || units == one.quantity);
        state(units <= buildable(one.product));
        record();
        one = now.orders.get(order);
        one.reserved += units;
        return one.open();
    }

    public int release(int order, int units) {
        check(order, now.orders);
        argument(units >= 1);
        Order one = now.orders.get(order);
        state(units <= one.reserved);
        state(!one.whole || units == one.quantity);
        record();
        one.reserved -= units;
        return one.reserved;
    }

    public int allocate() {
        int[][] given = trial();
        record();
        int sum = 0;
        for (int[] rung : given) {
            for (int k = 0; k < rung.length; k++) {
                now.orders.get(k).reserved += rung[k];
                sum += rung[k];
            }
        }
        return sum;
    }

    public int ship(int order) {
        check(order, now.orders);
        state(now.orders.get(order).reserved > 0);
        record();
        Order one = now.orders.get(order);
        int units = one.reserved;
        for (int part = 0; part < parts.size(); part++) {
            now.stock.set(part, now.stock.get(part) - units * needOf(one.product, part));
        }
        one.reserved = 0;
        one.shipped += units;
        now.shipments.add(0, new Shipment(order, units, now.day));
        now.lateness.add(Math.max(0, now.day - one.due));
        return units;
    }

    public int buy(int part, int pieces) {
        check(part, parts);
        argument(pieces >= 1 && pieces <= 999);
        state(now.arrivals.size() < 20);
        record();
        now.arrivals.add(new Arrival(part, now.day + parts.get(part).lead(), pieces));
        now.bought += pieces;
        return now.day + parts.get(part).lead();
    }

    public int adjust(int part, int stock) {
        check(part, parts);
        argument(stock >= 0 && stock <= 9999);
        record();
        now.stock.set(part, stock);
        int released = 0;
        while (reservedPieces(part) > stock) {
            int loser = IntStream.range(0, now.orders.size()).boxed()
                .filter(k -> now.orders.get(k).reserved > 0 && needOf(now.orders.get(k).product, part) > 0)
                .min(Comparator.comparing((Integer k) -> now.orders.get(k).level)
                    .thenComparing(k -> -now.orders.get(k).due).thenComparing(k -> -k)).orElseThrow();
            Order one = now.orders.get(loser);
            int units = one.whole ? one.reserved : 1;
            one.reserved -= units;
            released += units;
        }
        return released;
    }

    public int advance(int days) {
        argument(days >= 1 && days <= 100);
        record();
        now.day += days;
        List<Arrival> came = now.arrivals.stream().filter(a -> a.day() <= now.day).toList();
        came.forEach(a -> now.stock.set(a.part(), now.stock.get(a.part()) + a.pieces()));
        now.arrivals.removeAll(came);
        return came.size();
    }

    public int undo() {
        if (past.isEmpty()) {
            return -1;
        }
        now = past.pop();
        return past.size();
    }

    public int undoDepth() {
        return past.size();
    }

    // ---- totals, the shipment log, formatted text

    public int total(int what) {
        int units = now.shipments.stream().mapToInt(Shipment::units).sum();
        int lateUnits = 0;
        int lateDays = 0;
        for (int k = 0; k < now.lateness.size(); k++) {
            int late = now.lateness.get(k);
            int shipped = now.shipments.get(now.shipments.size() - 1 - k).units();
            lateUnits += late > 0 ? shipped : 0;
            lateDays += late * shipped;
        }
        int[] totals = {now.shipments.size(), units, lateUnits, lateDays, now.bought};
        return what < 0 || what > 4 ? -1 : totals[what];
    }

    public int shipment(int ago, int what) {
        if (ago < 0 || ago >= 16 || ago >= now.shipments.size() || what < 0 || what > 2) {
            return -1;
        }
        Shipment one = now.shipments.get(ago);
        return new int[] {one.order(), one.units(), one.day()}[what];
    }

    public int formatOrder(int order) {
        check(order, now.orders);
        Order one = now.orders.get(order);
        formatted = String.format("%s x%d c%d d%d%s o%d r%d s%d%s", products.get(one.product).name(),
            one.quantity, one.level, one.due, one.whole ? " w" : "", one.open(), one.reserved,
            one.shipped, one.cancelled ? " cancelled" : "");
        return formatted.length();
    }

    public int formatNeeds(int product) {
        check(product, products);
        formatted = products.get(product).name() + ":" + IntStream.range(0, parts.size())
            .filter(part -> needOf(product, part) > 0)
            .mapToObj(part -> " " + needOf(product, part) + parts.get(part).name())
            .collect(Collectors.joining());
        return formatted.length();
    }

    public int formattedByte(int index) {
        return index < 0 || index >= formatted.length() ? -1 : formatted.charAt(index);
    }
}
