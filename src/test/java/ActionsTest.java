/** Promises 43 to 53: actions and undoing them. */
public final class ActionsTest {
    private ActionsTest() { }

    public static void main(String[] args) {
        promise43AddOrder();
        promise44Cancel();
        promises45And46ReserveRelease();
        promise47Allocate();
        promise48Ship();
        promise49Buy();
        promise50Adjust();
        promise50WhoLoses();
        promise51Advance();
        promises52And53Undo();
        twentyOrders();
        undoOfEachAction();
        failedActionsAreNotRecorded();
        Check.end();
    }

    private static void promise43AddOrder() {
        OrderAssembler x = Check.loaded(Check.FURNITURE);
        Check.due("addOrder", x.addOrder(Check.STOOL, 99, 9, 999, true), 3);
        Check.due("addOrder of the least", x.addOrder(Check.KIT, 1, 0, 0, false), 4);
        int[] fields = {2, 99, 9, 999, 1};
        for (int what = 0; what < 5; what++) {
            Check.due("orderField(3, " + what + ")", x.orderField(3, what), fields[what]);
        }
        Check.due("the state of a new order", x.stateOf(4), OrderAssembler.OPEN);
        Check.badArgument("addOrder of 0 units", () -> x.addOrder(0, 0, 1, 1, false));
        Check.badArgument("addOrder of 100 units", () -> x.addOrder(0, 100, 1, 1, false));
        Check.badArgument("addOrder with class -1", () -> x.addOrder(0, 1, -1, 1, false));
        Check.badArgument("addOrder with class 10", () -> x.addOrder(0, 1, 10, 1, false));
        Check.badArgument("addOrder due on -1", () -> x.addOrder(0, 1, 1, -1, false));
        Check.badArgument("addOrder due on 1000", () -> x.addOrder(0, 1, 1, 1000, false));
        Check.outside("addOrder of no product", () -> x.addOrder(3, 0, 10, 1000, false));
        for (int order = 5; order < 20; order++) {
            Check.due("addOrder " + order, x.addOrder(0, 1, 1, 1, false), order);
        }
        Check.badState("a 21st order", () -> x.addOrder(0, 1, 1, 1, false));
        Check.badArgument("a wrong 21st order", () -> x.addOrder(0, 0, 1, 1, false));
        Check.outside("a 21st order of no product", () -> x.addOrder(-1, 1, 1, 1, false));
        x.cancel(7);
        Check.badState("a 21st order after cancel", () -> x.addOrder(0, 1, 1, 1, false));
        Check.due("the number of orders", x.count(2), 20);
    }

    private static void promise44Cancel() {
        OrderAssembler x = Check.loaded(Check.FURNITURE);
        x.reserve(1, 3);
        x.ship(1);
        x.reserve(1, 2);
        Check.due("cancel", x.cancel(1), 2);
        Check.due("the reserved legs", x.reserved(Check.LEG), 0);
        Check.due("the stock of legs", x.stock(Check.LEG), 31);
        Check.due("cancel of an order without reserved units", x.cancel(0), 0);
        Check.badState("cancel of a cancelled order", () -> x.cancel(0));
        x.reserve(2, 2);
        x.ship(2);
        Check.badState("cancel of a done order", () -> x.cancel(2));
        Check.outside("cancel(3)", () -> x.cancel(3));
        Check.outside("cancel(-1)", () -> x.cancel(-1));
    }

    private static void promises45And46ReserveRelease() {
        OrderAssembler x = Check.loaded(Check.FURNITURE);
        Check.due("reserve", x.reserve(1, 4), 2);
        Check.due("reserve more", x.reserve(1, 1), 1);
        Check.badState("reserve more than is open", () -> x.reserve(1, 2));
        Check.badArgument("reserve 0", () -> x.reserve(1, 0));
        Check.badArgument("reserve of the least int", () -> x.reserve(1, Integer.MIN_VALUE));
        Check.badState("reserve of the greatest int", () -> x.reserve(1, Integer.MAX_VALUE));
        Check.outside("reserve(3, 0)", () -> x.reserve(3, 0));
        Check.badState("reserve a part of a whole order", () -> x.reserve(2, 1));
        Check.due("reserve a whole order", x.reserve(2, 2), 0);
        Check.badState("release a part of a whole order", () -> x.release(2, 1));
        Check.due("release a whole order", x.release(2, 2), 0);
        Check.badState("release a whole order again", () -> x.release(2, 2));
        Check.due("release", x.release(1, 2), 3);
        Check.due("the reserved bolts", x.reserved(Check.BOLT), 6);
        Check.due("the open units", x.openUnits(1), 3);
        Check.badState("release more than is reserved", () -> x.release(1, 4));
        Check.badArgument("release 0", () -> x.release(1, 0));
        Check.outside("release(-1, 0)", () -> x.release(-1, 0));
        x.adjust(Check.LEG, 18);
        Check.badState("reserve without the legs", () -> x.reserve(0, 3));
        Check.due("reserve the last legs", x.reserve(0, 2), 1);
        Check.badState("reserve without one leg", () -> x.reserve(1, 1));
        x.cancel(1);
        Check.badState("reserve of a cancelled order", () -> x.reserve(1, 1));
        Check.badState("release of a cancelled order", () -> x.release(1, 1));
        Check.due("reserve the rest", x.reserve(0, 1), 0);
    }

    private static void promise47Allocate() {
        OrderAssembler x = Check.loaded(Check.FURNITURE);
        Check.due("allocate()", x.allocate(), 11);
        Check.due("the reserved legs", x.reserved(Check.LEG), 36);
        Check.due("the state", x.stateOf(2), OrderAssembler.RESERVED);
        Check.due("allocate() of nothing", x.allocate(), 0);
        Check.due("undoDepth() counts both", x.undoDepth(), 2);
        x.addOrder(Check.STOOL, 9, 0, 0, false);
        Check.due("allocate() of the last legs", x.allocate(), 1);
        Check.due("the open units", x.openUnits(3), 8);
    }

    private static void promise48Ship() {
        OrderAssembler x = Check.loaded(Check.FURNITURE);
        x.reserve(0, 2);
        x.reserve(1, 1);
        Check.due("ship", x.ship(0), 2);
        Check.due("the stock of legs", x.stock(Check.LEG), 32);
        Check.due("the stock of tops", x.stock(Check.TOP), 7);
        Check.due("the stock of bolts", x.stock(Check.BOLT), 84);
        Check.due("the reserved legs of the other order", x.reserved(Check.LEG), 3);
        Check.due("the shipped units", x.shippedUnits(0), 2);
        Check.badState("ship nothing", () -> x.ship(0));
        x.cancel(1);
        Check.badState("ship a cancelled order", () -> x.ship(1));
        Check.outside("ship(3)", () -> x.ship(3));
        Check.outside("ship(-1)", () -> x.ship(-1));
    }

    private static void promise49Buy() {
        OrderAssembler x = Check.loaded(Check.FURNITURE);
        Check.due("buy", x.buy(Check.BOLT, 999), 2);
        x.advance(1);
        Check.due("buy on day 1", x.buy(Check.TOP, 1), 9);
        Check.badArgument("buy 0", () -> x.buy(0, 0));
        Check.badArgument("buy 1000", () -> x.buy(0, 1000));
        Check.outside("buy(3, 0)", () -> x.buy(3, 0));
        for (int k = 2; k < 20; k++) {
            x.buy(Check.LEG, 1);
        }
        Check.badState("a 21st arrival", () -> x.buy(Check.LEG, 1));
        Check.badArgument("a wrong 21st arrival", () -> x.buy(Check.LEG, 0));
        Check.outside("a 21st arrival of no part", () -> x.buy(-1, 1));
        Check.due("the pieces bought", x.total(4), 999 + 1 + 18);
        Check.due("arriving of 18 arrivals", x.arriving(Check.LEG), 18);
        Check.due("nextArrival of 18 arrivals", x.nextArrival(Check.LEG), 6);
        Check.due("promise with 20 arrivals", x.promise(Check.STOOL, 18), 6);
        x.advance(1);
        Check.due("buy when there is room again", x.buy(Check.LEG, 5), 7);
        Check.due("the number of arrivals", x.count(4), 20);
    }

    private static void promise50Adjust() {
        OrderAssembler x = Check.loaded(Check.FURNITURE);
        Check.due("adjust of nothing reserved", x.adjust(Check.LEG, 41), 0);
        x.allocate();
        Check.due("adjust to what is reserved", x.adjust(Check.LEG, 36), 0);
        Check.due("adjust to less", x.adjust(Check.LEG, 35), 1);
        Check.due("the reserved units", x.reservedUnits(1), 5);
        Check.due("the reserved bolts", x.reserved(Check.BOLT), 38);
        Check.due("adjust to 0", x.adjust(Check.LEG, 0), 10);
        Check.due("nothing is reserved", x.reserved(Check.LEG) + x.reserved(Check.TOP) + x.reserved(Check.BOLT), 0);
        Check.due("the stock", x.adjust(Check.LEG, 9999) + x.stock(Check.LEG), 9999);
        Check.badArgument("adjust to -1", () -> x.adjust(0, -1));
        Check.badArgument("adjust to 10000", () -> x.adjust(0, 10000));
        Check.outside("adjust(3, -1)", () -> x.adjust(3, -1));
        Check.outside("adjust(-1, 1)", () -> x.adjust(-1, 1));
    }

    private static void promise50WhoLoses() {
        String text = "part a 99 1;part b 99 1;product p 1 a;product q 1 b;"
            + "order p 5 3 7;order p 5 2 4;order p 5 2 9;order p 5 2 9;order q 5 0 1;order p 4 1 1 whole;order p 2 0 0;";
        OrderAssembler x = Check.loaded(text);
        for (int order = 0; order < 6; order++) {
            x.reserve(order, x.openUnits(order));
        }
        Check.due("a whole order loses all", x.adjust(0, 23), 4);
        Check.due("the whole order is open", x.openUnits(5), 4);
        Check.due("the highest number loses", x.adjust(0, 18), 2);
        Check.due("the highest number has lost", x.reservedUnits(3), 3);
        Check.due("then the next", x.adjust(0, 14), 4);
        Check.due("none is left", x.reservedUnits(3), 0);
        Check.due("one is lost", x.reservedUnits(2), 4);
        Check.due("then the earlier due day", x.adjust(0, 8), 6);
        Check.due("two are lost", x.reservedUnits(1), 3);
        Check.due("then the higher class", x.adjust(0, 3), 5);
        Check.due("the last", x.reservedUnits(0), 3);
        Check.due("an order without the part keeps its units", x.reservedUnits(4), 5);
        OrderAssembler z = Check.loaded("part a 9999 1;product p 1 a;order p 99 1 1;order p 99 1 1;order p 99 9 9;");
        z.allocate();
        Check.due("adjust releases all units of several orders", z.adjust(0, 1), 296);
        Check.due("the one unit that is left", z.reservedUnits(2), 1);
        // Several pieces in a unit: as few units as needed, though the stock is not used up.
        OrderAssembler y = Check.loaded("part a 99 1;product p 4 a;order p 5 3 7;order p 5 3 7;");
        y.allocate();
        Check.due("adjust by units of 4 pieces", y.adjust(0, 30), 3);
        Check.due("the reserved pieces", y.reserved(0), 28);
        Check.due("the second order lost them", y.reservedUnits(1), 2);
        Check.due("the first order lost none", y.reservedUnits(0), 5);
    }

    private static void promise51Advance() {
        OrderAssembler x = Check.loaded(Check.FURNITURE);
        x.buy(Check.LEG, 10);
        x.buy(Check.LEG, 20);
        x.buy(Check.TOP, 30);
        Check.due("advance to the day before", x.advance(4), 0);
        Check.due("the stock of the day before", x.stock(Check.LEG), 40);
        Check.due("advance to the day", x.advance(1), 2);
        Check.due("the stock of the day", x.stock(Check.LEG), 70);
        Check.due("the arrivals left", x.count(4), 1);
        x.buy(Check.BOLT, 5);
        Check.due("advance over several days", x.advance(100), 2);
        Check.due("the day", x.day(), 105);
        Check.due("the stock of tops", x.stock(Check.TOP), 39);
        Check.due("the stock of bolts", x.stock(Check.BOLT), 105);
        Check.due("no arrivals left", x.count(4), 0);
        Check.badArgument("advance(0)", () -> x.advance(0));
        Check.badArgument("advance(101)", () -> x.advance(101));
        Check.badArgument("advance(-1)", () -> x.advance(-1));
    }

    private static void promises52And53Undo() {
        OrderAssembler x = Check.loaded(Check.FURNITURE);
        Check.due("undo() of nothing", x.undo(), OrderAssembler.NONE);
        for (int k = 1; k <= 14; k++) {
            x.advance(1);
            Check.due("undoDepth() after " + k, x.undoDepth(), Math.min(k, 12));
        }
        for (int k = 11; k >= 0; k--) {
            Check.due("undo()", x.undo(), k);
            Check.due("the day after undo", x.day(), 2 + k);
            Check.due("undoDepth() after undo", x.undoDepth(), k);
        }
        Check.due("undo() of more than 12", x.undo(), OrderAssembler.NONE);
        Check.due("the day stays", x.day(), 2);
        x.advance(5);
        x.undo();
        x.advance(7);
        Check.due("undo() of a later action", x.undo(), 0);
        Check.due("the day before it", x.day(), 2);
    }

    private static void twentyOrders() {
        OrderAssembler x = Check.loaded("part a 9999 1;product p 20 a;rung 0 9 100;" + "order p 20 1 1;".repeat(20));
        Check.due("coveredOrders() of 20", x.coveredOrders(), (1 << 20) - 1);
        Check.due("lateOrders() of 20", x.lateOrders(), 0);
        Check.due("rungUnits of 20 orders", x.rungUnits(0), 400);
        Check.due("allocate() of 20 orders", x.allocate(), 400);
        Check.due("adjust of 20 orders", x.adjust(0, 399), 381);
        Check.due("the first order keeps the most", x.reservedUnits(0), 19);
        Check.due("the last order keeps none", x.reservedUnits(19), 0);
        Check.due("ship", x.ship(0), 19);
        Check.due("undo", x.undo(), 2);
        Check.due("undo", x.undo(), 1);
        Check.due("the last order has its units again", x.reservedUnits(19), 20);
        x.adjust(0, 0);
        x.advance(1);
        Check.due("lateOrders() of all 20", x.lateOrders(), (1 << 20) - 1);
    }

    /** Undoes an action and compares everything with what was before it. */
    private static void undone(OrderAssembler x, String what, Check.Call action) {
        String before = Check.all(x);
        action.answer();
        Check.due("undoing " + what, x.undo(), 5);
        Check.due("the state after undoing " + what, Check.all(x), before);
        action.answer();
        x.undo();
        Check.due("the state after undoing " + what + " again", Check.all(x), before);
    }

    private static void undoOfEachAction() {
        OrderAssembler x = Check.loaded(Check.FURNITURE);
        x.allocate();
        x.buy(Check.LEG, 7);
        x.advance(2);
        x.ship(1);
        x.buy(Check.LEG, 3);
        undone(Check.loaded(Check.FURNITURE), x);
        undone(x, "addOrder", () -> x.addOrder(0, 1, 1, 1, true));
        undone(x, "cancel", () -> x.cancel(0));
        undone(x, "release", () -> x.release(0, 2));
        undone(x, "ship", () -> x.ship(0));
        undone(x, "buy", () -> x.buy(1, 9));
        undone(x, "adjust", () -> x.adjust(0, 3));
        undone(x, "advance", () -> x.advance(50));
        undone(x, "allocate of nothing", x::allocate);
        x.undo();
        x.release(0, 3);
        undone(x, "reserve", () -> x.reserve(0, 1));
        undone(x, "allocate", x::allocate);
    }

    /** The formatted text and the latest error are not undone. */
    private static void undone(OrderAssembler y, OrderAssembler x) {
        y.allocate();
        y.formatOrder(0);
        Check.enter(y, ";");
        Check.badArgument("a wrong text", y::load);
        y.undo();
        Check.due("the formatted text stays", Check.formatted(y), "table x3 c7 d10 o0 r3 s0");
        Check.due("the error stays", y.errorKind(), OrderAssembler.SYNTAX);
        Check.due("undoDepth() of the other object", x.undoDepth(), 5);
    }

    private static void failedActionsAreNotRecorded() {
        OrderAssembler x = Check.loaded(Check.FURNITURE);
        x.allocate();
        String before = Check.all(x);
        Check.badState("reserve", () -> x.reserve(0, 1));
        Check.badArgument("release", () -> x.release(0, 0));
        Check.badState("release too much", () -> x.release(0, 99));
        Check.badArgument("addOrder", () -> x.addOrder(0, 0, 0, 0, false));
        Check.badArgument("buy", () -> x.buy(0, 0));
        Check.badArgument("adjust", () -> x.adjust(0, -1));
        Check.badArgument("advance", () -> x.advance(0));
        Check.outside("ship", () -> x.ship(9));
        Check.outside("cancel", () -> x.cancel(9));
        Check.due("the state after failed actions", Check.all(x), before);
    }
}
