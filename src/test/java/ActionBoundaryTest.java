/** The boundary cases of actions and undoing (promises 43 to 53): a method for each sentence. */
public final class ActionBoundaryTest {
    private static final String TEN = "part a 10 1;product p 1 a;";

    private ActionBoundaryTest() { }

    public static void main(String[] args) {
        Check.run(ActionBoundaryTest::addOrderNumber);
        Check.run(ActionBoundaryTest::addOrderRanges);
        Check.run(ActionBoundaryTest::twentyOrders);
        Check.run(ActionBoundaryTest::cancel);
        Check.run(ActionBoundaryTest::cancelDoneOrCancelled);
        Check.run(ActionBoundaryTest::reserve);
        Check.run(ActionBoundaryTest::reserveBelowOne);
        Check.run(ActionBoundaryTest::reserveTooMuch);
        Check.run(ActionBoundaryTest::reserveWhole);
        Check.run(ActionBoundaryTest::reserveWithoutFree);
        Check.run(ActionBoundaryTest::release);
        Check.run(ActionBoundaryTest::releaseBelowOne);
        Check.run(ActionBoundaryTest::releaseTooMuch);
        Check.run(ActionBoundaryTest::releaseWhole);
        Check.run(ActionBoundaryTest::allocate);
        Check.run(ActionBoundaryTest::ship);
        Check.run(ActionBoundaryTest::shipNothing);
        Check.run(ActionBoundaryTest::buy);
        Check.run(ActionBoundaryTest::buyRange);
        Check.run(ActionBoundaryTest::twentyArrivals);
        Check.run(ActionBoundaryTest::adjust);
        Check.run(ActionBoundaryTest::lowestClassLoses);
        Check.run(ActionBoundaryTest::latestDueDayLoses);
        Check.run(ActionBoundaryTest::highestNumberLoses);
        Check.run(ActionBoundaryTest::wholeLosesAll);
        Check.run(ActionBoundaryTest::adjustRange);
        Check.run(ActionBoundaryTest::advance);
        Check.run(ActionBoundaryTest::advanceRange);
        Check.run(ActionBoundaryTest::recordedEvenIfNothingChanges);
        Check.run(ActionBoundaryTest::undoableActions);
        Check.run(ActionBoundaryTest::lastTwelve);
        Check.run(ActionBoundaryTest::undoneActionsMakeRoom);
        Check.run(ActionBoundaryTest::undoRestoresEverything);
        Check.run(ActionBoundaryTest::undoOfNone);
        Check.run(ActionBoundaryTest::undoDepth);
        Check.end();
    }

    private static void addOrderNumber() {
        Check.says("Adds an order. Returns its number.");
        OrderAssembler x = Check.loaded(TEN);
        Check.due("the first order", x.addOrder(0, 1, 0, 0, false), 0);
        Check.due("the second order", x.addOrder(0, 99, 9, 999, true), 1);
        x.cancel(0);
        Check.due("after a cancelled one", x.addOrder(0, 1, 0, 0, false), 2);
        x.undo();
        Check.due("after an undone one", x.addOrder(0, 2, 1, 3, true), 2);
        int[] due = {0, 2, 1, 3, 1};
        for (int what = 0; what < 5; what++) {
            Check.due("orderField(2, " + what + ")", x.orderField(2, what), due[what]);
        }
        Check.due("its open units", x.openUnits(2), 2);
        Check.due("its reserved units", x.reservedUnits(2), 0);
        Check.due("its shipped units", x.shippedUnits(2), 0);
    }

    private static void addOrderRanges() {
        Check.says("Throws IllegalArgumentException if units, level or due is out of range");
        OrderAssembler x = Check.loaded(TEN);
        x.allocate();
        Check.due("the least", x.addOrder(0, 1, 0, 0, false), 0);
        Check.due("the greatest", x.addOrder(0, 99, 9, 999, false), 1);
        for (int units : new int[] {0, -1, 100, Integer.MIN_VALUE, Integer.MAX_VALUE}) {
            Check.refused(x, "units " + units, IllegalArgumentException.class, () -> x.addOrder(0, units, 0, 0, false));
        }
        for (int level : new int[] {-1, 10, Integer.MIN_VALUE, Integer.MAX_VALUE}) {
            Check.refused(x, "level " + level, IllegalArgumentException.class, () -> x.addOrder(0, 1, level, 0, true));
        }
        for (int due : new int[] {-1, 1000, Integer.MIN_VALUE, Integer.MAX_VALUE}) {
            Check.refused(x, "due " + due, IllegalArgumentException.class, () -> x.addOrder(0, 1, 0, due, false));
        }
    }

    private static void twentyOrders() {
        Check.says("Throws IllegalStateException if there are 20 orders");
        OrderAssembler x = Check.loaded(TEN + Texts.orders(18));
        Check.due("the 19th order", x.addOrder(0, 1, 1, 1, false), 18);
        Check.due("the 20th order", x.addOrder(0, 1, 1, 1, false), 19);
        Check.refused(x, "the 21st order", IllegalStateException.class, () -> x.addOrder(0, 1, 1, 1, false));
        x.cancel(0);
        x.reserve(1, 1);
        x.ship(1);
        Check.refused(x, "the 21st order after a cancelled and a done one", IllegalStateException.class,
            () -> x.addOrder(0, 1, 1, 1, false));
        for (int time = 0; time < 4; time++) {
            x.undo();
        }
        Check.due("the 20th order again", x.addOrder(0, 1, 1, 1, true), 19);
        Check.refused(x, "the 21st order again", IllegalStateException.class, () -> x.addOrder(0, 1, 1, 1, false));
    }

    private static void cancel() {
        Check.says("Cancels an order: its reserved units are released. Returns the number of released units.");
        OrderAssembler x = Check.loaded(TEN + "order p 3 1 1;order p 3 1 1;order p 3 1 1 whole;order p 3 1 1;");
        Check.due("with no reserved units", x.cancel(0), 0);
        x.reserve(1, 2);
        Check.due("with 2 reserved units", x.cancel(1), 2);
        x.reserve(2, 3);
        Check.due("a whole order", x.cancel(2), 3);
        Check.due("reserved(0)", x.reserved(0), 0);
        x.reserve(3, 1);
        x.ship(3);
        x.reserve(3, 2);
        Check.due("with a shipped unit", x.cancel(3), 2);
        Check.due("the shipped unit stays", x.shippedUnits(3), 1);
        Check.due("the stock", x.stock(0), 9);
        Check.due("the free quantity", x.buildable(0), 9);
    }

    private static void cancelDoneOrCancelled() {
        Check.says("Throws IllegalStateException if it is done or cancelled");
        OrderAssembler x = Check.loaded(TEN + "order p 2 1 1;order p 1 1 1;");
        x.reserve(0, 2);
        x.ship(0);
        Check.refused(x, "cancel of a done order", IllegalStateException.class, () -> x.cancel(0));
        x.cancel(1);
        Check.refused(x, "cancel of a cancelled order", IllegalStateException.class, () -> x.cancel(1));
        x.undo();
        Check.due("cancel after undoing it", x.cancel(1), 0);
    }

    private static void reserve() {
        Check.says("Reserves open units of an order. Returns the number of open units that are left.");
        OrderAssembler x = Check.loaded(TEN + "order p 9 1 1;order p 1 1 1;order p 1 1 1 whole;");
        Check.due("one unit", x.reserve(0, 1), 8);
        Check.due("all but one of the rest", x.reserve(0, 7), 1);
        Check.due("the last", x.reserve(0, 1), 0);
        Check.due("the only one", x.reserve(1, 1), 0);
        x.release(0, 9);
        Check.due("all at once", x.reserve(0, 9), 0);
        x.adjust(0, 11);
        Check.due("a whole order of one unit", x.reserve(2, 1), 0);
    }

    private static void reserveBelowOne() {
        Check.says("Throws IllegalArgumentException if units is below 1");
        OrderAssembler x = Check.loaded(TEN + "order p 9 1 1;order p 2 1 1 whole;order p 1 1 1;");
        x.cancel(2);
        for (int units : new int[] {0, -1, -9, Integer.MIN_VALUE}) {
            for (int order = 0; order < 3; order++) {
                int which = order;
                Check.refused(x, "reserve(" + which + ", " + units + ")", IllegalArgumentException.class,
                    () -> x.reserve(which, units));
            }
        }
    }

    private static void reserveTooMuch() {
        Check.says("Throws IllegalStateException if the order has not so many open units");
        OrderAssembler x = Check.loaded("part a 999 1;product p 1 a;order p 9 1 1;order p 1 1 1;order p 1 1 1;");
        for (int units : new int[] {10, 99, 100, Integer.MAX_VALUE}) {
            Check.refused(x, "reserve " + units + " of 9", IllegalStateException.class, () -> x.reserve(0, units));
        }
        x.reserve(0, 5);
        Check.refused(x, "reserve 5 of 4", IllegalStateException.class, () -> x.reserve(0, 5));
        x.ship(0);
        Check.refused(x, "reserve 5 of 4 when 5 are shipped", IllegalStateException.class, () -> x.reserve(0, 5));
        Check.due("reserve 4 of 4", x.reserve(0, 4), 0);
        Check.refused(x, "reserve 1 of 0", IllegalStateException.class, () -> x.reserve(0, 1));
        x.ship(0);
        Check.refused(x, "reserve 1 of a done order", IllegalStateException.class, () -> x.reserve(0, 1));
        x.cancel(1);
        Check.refused(x, "reserve 1 of a cancelled order", IllegalStateException.class, () -> x.reserve(1, 1));
    }

    private static void reserveWhole() {
        Check.says("if it is a whole order and units is not its quantity");
        OrderAssembler x = Check.loaded("part a 999 1;product p 1 a;order p 9 1 1 whole;");
        for (int units : new int[] {1, 8, 10, Integer.MAX_VALUE}) {
            Check.refused(x, "reserve " + units + " of 9", IllegalStateException.class, () -> x.reserve(0, units));
        }
        Check.due("reserve 9 of 9", x.reserve(0, 9), 0);
        Check.refused(x, "reserve 9 of 0", IllegalStateException.class, () -> x.reserve(0, 9));
    }

    private static void reserveWithoutFree() {
        Check.says("or if the free quantity of a part is not enough");
        OrderAssembler x = Check.loaded("part a 20 1;part b 3 1;product p 4 a 1 b;product q 1 b;order p 9 1 1;order q 9 1 1;"
            + "order p 2 1 1 whole;");
        Check.refused(x, "4 units of 3 pieces", IllegalStateException.class, () -> x.reserve(0, 4));
        x.adjust(1, 99);
        Check.refused(x, "6 units of 20 pieces", IllegalStateException.class, () -> x.reserve(0, 6));
        x.adjust(0, 19);
        Check.refused(x, "5 units of 19 pieces", IllegalStateException.class, () -> x.reserve(0, 5));
        Check.due("4 units of 19 pieces", x.reserve(0, 4), 5);
        Check.refused(x, "one unit of 3 pieces", IllegalStateException.class, () -> x.reserve(0, 1));
        Check.refused(x, "a whole order of 3 pieces", IllegalStateException.class, () -> x.reserve(2, 2));
        x.buy(0, 99);
        Check.refused(x, "pieces that only arrive", IllegalStateException.class, () -> x.reserve(0, 1));
        Check.due("a product that does not need it", x.reserve(1, 9), 0);
        x.adjust(0, 20);
        Check.due("just enough", x.reserve(0, 1), 4);
        Check.due("all is reserved", x.reserved(0), 20);
    }

    private static void release() {
        Check.says("Releases reserved units of an order; they are open then. Returns the number of reserved units that are "
            + "left.");
        OrderAssembler x = Check.loaded(TEN + "order p 9 1 1;order p 1 1 1 whole;");
        x.reserve(0, 9);
        x.reserve(1, 1);
        Check.due("one unit", x.release(0, 1), 8);
        Check.due("it is open", x.openUnits(0), 1);
        Check.due("its piece is free", x.reserved(0), 9);
        Check.due("all but one of the rest", x.release(0, 7), 1);
        Check.due("the last", x.release(0, 1), 0);
        Check.due("all are open", x.openUnits(0), 9);
        Check.due("a whole order of one unit", x.release(1, 1), 0);
        Check.due("all pieces are free", x.reserved(0), 0);
    }

    private static void releaseBelowOne() {
        Check.says("Throws IllegalArgumentException if units is below 1 (release)");
        OrderAssembler x = Check.loaded(TEN + "order p 4 1 1;order p 2 1 1 whole;order p 1 1 1;");
        x.allocate();
        x.cancel(2);
        for (int units : new int[] {0, -1, -4, Integer.MIN_VALUE}) {
            for (int order = 0; order < 3; order++) {
                int which = order;
                Check.refused(x, "release(" + which + ", " + units + ")", IllegalArgumentException.class,
                    () -> x.release(which, units));
            }
        }
    }

    private static void releaseTooMuch() {
        Check.says("Throws IllegalStateException if the order has not so many reserved units");
        OrderAssembler x = Check.loaded(TEN + "order p 5 1 1;order p 1 1 1;");
        Check.refused(x, "release 1 of 0", IllegalStateException.class, () -> x.release(0, 1));
        x.reserve(0, 3);
        for (int units : new int[] {4, 5, 6, Integer.MAX_VALUE}) {
            Check.refused(x, "release " + units + " of 3", IllegalStateException.class, () -> x.release(0, units));
        }
        Check.due("release 3 of 3", x.release(0, 3), 0);
        x.reserve(0, 3);
        x.ship(0);
        Check.refused(x, "release of shipped units", IllegalStateException.class, () -> x.release(0, 1));
        x.reserve(1, 1);
        x.cancel(1);
        Check.refused(x, "release of a cancelled order", IllegalStateException.class, () -> x.release(1, 1));
    }

    private static void releaseWhole() {
        Check.says("or if it is a whole order and units is not its quantity");
        OrderAssembler x = Check.loaded(TEN + "order p 3 1 1 whole;");
        Check.refused(x, "release 3 of 0", IllegalStateException.class, () -> x.release(0, 3));
        x.reserve(0, 3);
        for (int units : new int[] {1, 2, 4, Integer.MAX_VALUE}) {
            Check.refused(x, "release " + units + " of 3", IllegalStateException.class, () -> x.release(0, units));
        }
        Check.due("release 3 of 3", x.release(0, 3), 0);
    }

    private static void allocate() {
        Check.says("Carries out an allocation. Returns the number of units that were reserved.");
        Check.due("without anything", new OrderAssembler().allocate(), 0);
        Check.due("without orders", Check.loaded(TEN).allocate(), 0);
        Check.due("without stock", Check.loaded("part a 0 1;product p 1 a;order p 9 1 1;").allocate(), 0);
        OrderAssembler x = Check.loaded("part a 9999 1;product p 1 a;" + "order p 99 1 1;".repeat(20));
        Check.due("all units of 20 orders", x.allocate(), 1980);
        Check.due("the reserved pieces", x.reserved(0), 1980);
        Check.due("a second allocation", x.allocate(), 0);
        Check.due("the reserved pieces after it", x.reserved(0), 1980);
        for (int order = 0; order < 20; order++) {
            Check.due("the reserved units of " + order, x.reservedUnits(order), 99);
        }
    }

    private static void ship() {
        Check.says("Ships all reserved units of an order: the stock and the reserved quantity of each part decrease by the "
            + "pieces in them. The shipment is added to the log. Returns the number of units.");
        OrderAssembler x = Check.loaded("part a 12 1;part b 9 1;part c 9 1;product p 4 a 1 b;order p 3 1 1;order p 1 1 1;");
        x.reserve(0, 2);
        Check.due("part of an order", x.ship(0), 2);
        Check.due("stock(0)", x.stock(0), 4);
        Check.due("stock(1)", x.stock(1), 7);
        Check.due("stock(2)", x.stock(2), 9);
        Check.due("reserved(0)", x.reserved(0), 0);
        Check.due("the log", x.shipment(0, 1), 2);
        x.reserve(0, 1);
        Check.due("the rest, and all of the stock", x.ship(0), 1);
        Check.due("no stock is left", x.stock(0), 0);
        Check.due("the log's order", x.shipment(0, 0), 0);
        Check.due("the log's units", x.shipment(0, 1), 1);
        Check.due("the log's earlier units", x.shipment(1, 1), 2);
    }

    private static void shipNothing() {
        Check.says("Throws IllegalStateException if the order has no reserved units");
        OrderAssembler x = Check.loaded(TEN + "order p 3 1 1;order p 1 1 1;order p 1 1 1;");
        Check.refused(x, "ship of open units", IllegalStateException.class, () -> x.ship(0));
        x.reserve(0, 1);
        x.ship(0);
        Check.refused(x, "ship a second time", IllegalStateException.class, () -> x.ship(0));
        x.reserve(0, 2);
        x.ship(0);
        Check.refused(x, "ship of a done order", IllegalStateException.class, () -> x.ship(0));
        x.reserve(1, 1);
        x.cancel(1);
        Check.refused(x, "ship of a cancelled order", IllegalStateException.class, () -> x.ship(1));
        x.reserve(2, 1);
        x.adjust(0, 0);
        Check.refused(x, "ship of units that were lost", IllegalStateException.class, () -> x.ship(2));
    }

    private static void buy() {
        Check.says("Buys pieces of a part: they arrive on the present day plus its lead time. Returns the day of the "
            + "arrival.");
        OrderAssembler x = Check.loaded("part a 0 1;part b 9999 60;");
        Check.due("the least", x.buy(0, 1), 1);
        Check.due("the greatest", x.buy(1, 999), 60);
        Check.due("the stock stays", x.stock(1), 9999);
        x.advance(100);
        Check.due("on day 100", x.buy(0, 1), 101);
        Check.due("on day 100 with a great lead time", x.buy(1, 1), 160);
        Check.due("more than 9999 pieces", x.stock(1), 10998);
        Check.due("no arrival comes on the day of its purchase", x.stock(0), 1);
    }

    private static void buyRange() {
        Check.says("Throws IllegalArgumentException if pieces is out of range");
        OrderAssembler x = Check.loaded(TEN);
        for (int pieces : new int[] {0, -1, 1000, Integer.MIN_VALUE, Integer.MAX_VALUE}) {
            Check.refused(x, "buy " + pieces, IllegalArgumentException.class, () -> x.buy(0, pieces));
        }
        Check.due("buy 1", x.buy(0, 1), 1);
        Check.due("buy 999", x.buy(0, 999), 1);
        Check.due("the pieces", x.arriving(0), 1000);
    }

    private static void twentyArrivals() {
        Check.says("Throws IllegalStateException if there are 20 arrivals already");
        OrderAssembler x = Check.loaded("part a 0 1;part b 0 2;");
        for (int time = 1; time <= 20; time++) {
            Check.due("purchase " + time, x.buy(time % 2, time), 1 + time % 2);
        }
        Check.refused(x, "a 21st arrival", IllegalStateException.class, () -> x.buy(0, 1));
        Check.refused(x, "a 21st arrival of another part", IllegalStateException.class, () -> x.buy(1, 1));
        x.undo();
        Check.due("room after undo", x.buy(0, 20), 1);
        Check.refused(x, "a 21st arrival again", IllegalStateException.class, () -> x.buy(0, 1));
        Check.due("10 came", x.advance(1), 10);
        for (int time = 1; time <= 10; time++) {
            Check.due("purchase " + time + " on day 1", x.buy(0, 1), 2);
        }
        Check.refused(x, "a 21st arrival on day 1", IllegalStateException.class, () -> x.buy(0, 1));
        Check.due("20 came", x.advance(1), 20);
        Check.due("stock(0)", x.stock(0), 2 + 4 + 6 + 8 + 10 + 12 + 14 + 16 + 18 + 20 + 10);
        Check.due("stock(1)", x.stock(1), 1 + 3 + 5 + 7 + 9 + 11 + 13 + 15 + 17 + 19);
    }

    private static void adjust() {
        Check.says("Sets the stock of a part after a count. As long as its reserved quantity is greater than its stock "
            + "then");
        OrderAssembler x = Check.loaded("part a 40 1;part b 40 1;product p 4 a 2 b;order p 9 1 1;");
        Check.due("with nothing reserved", x.adjust(0, 39), 0);
        x.reserve(0, 9);
        Check.due("to just what is reserved", x.adjust(0, 36), 0);
        Check.due("to one piece less", x.adjust(0, 35), 1);
        Check.due("reserved(0)", x.reserved(0), 32);
        Check.due("reserved(1)", x.reserved(1), 16);
        Check.due("the open unit", x.openUnits(0), 1);
        Check.due("to what is reserved now", x.adjust(0, 32), 0);
        Check.due("to 0", x.adjust(0, 0), 8);
        Check.due("the stock", x.stock(0), 0);
        Check.due("reserved(1) of nothing", x.reserved(1), 0);
        Check.due("up again", x.adjust(0, 9999), 0);
        Check.due("nothing is reserved anew", x.reservedUnits(0), 0);
        OrderAssembler most = Check.loaded("part a 9999 1;product p 1 a;" + "order p 99 1 1;".repeat(20));
        most.allocate();
        Check.due("all units of 20 orders", most.adjust(0, 0), 1980);
        Check.due("nothing is reserved", most.reserved(0), 0);
    }

    private static void lowestClassLoses() {
        Check.says("of the orders with reserved units whose product needs the part, that one with the lowest class loses a "
            + "reserved unit");
        OrderAssembler x = Check.loaded("part a 99 1;part b 99 1;product p 1 a;product q 1 b;order p 2 1 9;order p 2 0 1;"
            + "order q 2 0 9;order p 2 9 9;");
        x.allocate();
        Check.due("one unit", x.adjust(0, 5), 1);
        Check.due("of the lowest class", x.reservedUnits(1), 1);
        Check.due("two more", x.adjust(0, 3), 2);
        Check.due("the lowest class has none", x.reservedUnits(1), 0);
        Check.due("the next class has one", x.reservedUnits(0), 1);
        Check.due("another part's order keeps all", x.reservedUnits(2), 2);
        Check.due("the highest class keeps all", x.reservedUnits(3), 2);
    }

    private static void latestDueDayLoses() {
        Check.says("of several with this class the one with the latest due day");
        OrderAssembler y = Check.loaded("part a 99 1;product p 1 a;order p 2 5 7;order p 2 5 8;order p 2 5 6;");
        y.allocate();
        Check.due("one unit of three orders", y.adjust(0, 5), 1);
        Check.due("of the latest", y.reservedUnits(1), 1);
        y.adjust(0, 3);
        Check.due("then of the next", y.reservedUnits(0), 1);
        Check.due("the earliest keeps all", y.reservedUnits(2), 2);
    }

    private static void highestNumberLoses() {
        Check.says("of several the one with the highest number");
        OrderAssembler z = Check.loaded("part a 99 1;product p 1 a;order p 2 5 7;order p 2 5 7;order p 2 5 7;");
        z.allocate();
        z.adjust(0, 5);
        Check.due("the highest number loses", z.reservedUnits(2), 1);
        z.adjust(0, 3);
        Check.due("the middle number loses then", z.reservedUnits(1), 1);
        Check.due("the lowest number keeps all", z.reservedUnits(0), 2);
        Check.says("loses a reserved unit (that is chosen anew for each unit)");
        Check.due("all that are left", z.adjust(0, 0), 3);
    }

    private static void wholeLosesAll() {
        Check.says("(a whole order: all of them), which is open then");
        OrderAssembler x = Check.loaded("part a 99 1;product p 1 a;order p 5 1 1 whole;order p 5 2 1;order p 1 0 1 whole;");
        x.allocate();
        Check.due("a whole order of one unit", x.adjust(0, 10), 1);
        Check.due("a whole order of five units", x.adjust(0, 9), 5);
        Check.due("its open units", x.openUnits(0), 5);
        Check.due("the other keeps all", x.reservedUnits(1), 5);
        Check.due("the released pieces are free", x.reserved(0), 5);
        Check.due("then one of the other", x.adjust(0, 4), 1);
        OrderAssembler y = Check.loaded("part a 99 1;product p 1 a;order p 3 1 1;order p 5 1 2 whole;");
        y.allocate();
        Check.due("a whole order first", y.adjust(0, 2), 5 + 1);
        Check.due("then one of the other", y.reservedUnits(0), 2);
    }

    private static void adjustRange() {
        Check.says("Throws IllegalArgumentException if stock is out of range");
        OrderAssembler x = Check.loaded(TEN + "order p 9 1 1;");
        x.allocate();
        for (int stock : new int[] {-1, 10000, Integer.MIN_VALUE, Integer.MAX_VALUE}) {
            Check.refused(x, "adjust to " + stock, IllegalArgumentException.class, () -> x.adjust(0, stock));
        }
        Check.due("adjust to 9999", x.adjust(0, 9999), 0);
        Check.due("stock(0)", x.stock(0), 9999);
        Check.due("adjust to 0", x.adjust(0, 0), 9);
        Check.due("stock(0) then", x.stock(0), 0);
    }

    private static void advance() {
        Check.says("on each of them, the day increases by 1, and then the pieces of all arrivals of this day are added to "
            + "the stock, and the arrivals are removed");
        OrderAssembler x = Check.loaded("part a 0 1;part b 5 2;part c 0 60;");
        x.buy(0, 1);
        x.buy(1, 10);
        x.buy(1, 20);
        x.buy(2, 7);
        Check.due("day 1", x.advance(1), 1);
        Check.due("stock(0)", x.stock(0), 1);
        Check.due("stock(1) before its day", x.stock(1), 5);
        Check.due("the arrivals left", x.count(4), 3);
        Check.due("day 2", x.advance(1), 2);
        Check.due("stock(1)", x.stock(1), 35);
        Check.due("day 59", x.advance(57), 0);
        Check.due("stock(2) before its day", x.stock(2), 0);
        Check.due("day 60", x.advance(1), 1);
        Check.due("stock(2)", x.stock(2), 7);
        Check.due("day 160", x.advance(100), 0);
        Check.due("nothing comes twice", x.stock(0) + x.stock(1) + x.stock(2), 43);
        x.buy(0, 1);
        x.buy(1, 1);
        x.buy(2, 1);
        Check.due("several days at once", x.advance(100), 3);
        Check.due("the day", x.day(), 260);
        Check.due("no arrivals are left", x.count(4), 0);
    }

    private static void advanceRange() {
        Check.says("Throws IllegalArgumentException if days is out of range");
        OrderAssembler x = Check.loaded(TEN);
        x.buy(0, 1);
        for (int days : new int[] {0, -1, 101, Integer.MIN_VALUE, Integer.MAX_VALUE}) {
            Check.refused(x, "advance(" + days + ")", IllegalArgumentException.class, () -> x.advance(days));
        }
        Check.due("advance(1)", x.advance(1), 1);
        Check.due("advance(100)", x.advance(100), 0);
        Check.due("day()", x.day(), 101);
    }

    private static void recordedEvenIfNothingChanges() {
        Check.says("A successful call of one of them is recorded even if it changes nothing.");
        OrderAssembler x = Check.loaded(TEN);
        String before = Check.all(x);
        Check.due("allocate of nothing", x.allocate(), 0);
        Check.due("its record", x.undoDepth(), 1);
        Check.due("adjust to the same stock", x.adjust(0, 10), 0);
        Check.due("both records", x.undoDepth(), 2);
        Check.due("undo", x.undo(), 1);
        Check.due("undo", x.undo(), 0);
        Check.due("the state", Check.all(x), before);
    }

    private static void undoableActions() {
        Check.says("The methods addOrder, cancel, reserve, release, allocate, ship, buy, adjust and advance are undoable "
            + "actions.");
        OrderAssembler x = Check.loaded(TEN);
        Check.Call[] actions = {() -> x.addOrder(0, 9, 1, 1, false), () -> x.reserve(0, 5), () -> x.release(0, 1),
            () -> x.allocate(), () -> x.ship(0), () -> x.buy(0, 1), () -> x.adjust(0, 50), () -> x.advance(1),
            () -> x.addOrder(0, 1, 1, 1, false), () -> x.cancel(1)};
        String[] states = new String[actions.length];
        for (int k = 0; k < actions.length; k++) {
            states[k] = Check.all(x);
            actions[k].answer();
            Check.due("undoDepth() after action " + k, x.undoDepth(), k + 1);
        }
        for (int k = actions.length - 1; k >= 0; k--) {
            Check.due("undo of action " + k, x.undo(), k);
            Check.due("the state before action " + k, Check.all(x), states[k]);
        }
        Check.says("are undoable actions (and no other calls)");
        Check.enter(x, TEN + "product q 2 a;order p 1 1 1;");
        x.load();
        x.append(0, 0, 0, 0, 0);
        x.truncate(0);
        x.formatNeeds(0);
        x.formatOrder(0);
        String asked = Check.everything(x);
        x.promise(0, 1);
        x.buildableTogether(0, 1);
        x.buildableAfter(0, 1, 1);
        Check.due("undoDepth() after other calls", x.undoDepth(), 0);
        Check.none("undo() after other calls", x.undo());
        Check.due("undoDepth() after undo()", x.undoDepth(), 0);
        Check.due("everything after other calls", Check.everything(x), asked);
    }

    private static void lastTwelve() {
        Check.says("The last 12 recorded actions can be undone.");
        for (int actions : new int[] {1, 11, 12, 13, 23, 24, 25, 36, 37, 100}) {
            OrderAssembler x = Check.loaded(TEN);
            for (int time = 0; time < actions; time++) {
                x.advance(1);
            }
            int most = Math.min(actions, 12);
            Check.due("undoDepth() after " + actions, x.undoDepth(), most);
            for (int left = most - 1; left >= 0; left--) {
                Check.due("undo() after " + actions, x.undo(), left);
                Check.due("the day", x.day(), actions - most + left);
            }
            Check.none("undo() of one more after " + actions, x.undo());
            Check.due("the day stays", x.day(), actions - most);
        }
    }

    private static void undoneActionsMakeRoom() {
        Check.says("The last 12 recorded actions can be undone (an undone one is no longer recorded).");
        OrderAssembler x = Check.loaded(TEN);
        for (int time = 0; time < 20; time++) {
            x.advance(1);
        }
        for (int time = 0; time < 5; time++) {
            x.undo();
        }
        Check.due("the day after undoing 5", x.day(), 15);
        Check.due("undoDepth() after undoing 5", x.undoDepth(), 7);
        for (int time = 1; time <= 5; time++) {
            x.advance(10);
            Check.due("undoDepth() after new ones", x.undoDepth(), 7 + time);
        }
        x.advance(10);
        Check.due("undoDepth() is full again", x.undoDepth(), 12);
        int[] days = {65, 55, 45, 35, 25, 15, 14, 13, 12, 11, 10, 9};
        for (int k = 0; k < 12; k++) {
            Check.due("undo()", x.undo(), 11 - k);
            Check.due("the day", x.day(), days[k]);
        }
        Check.none("undo() of one more", x.undo());
    }

    private static void undoRestoresEverything() {
        Check.says("Undoing an action restores the stock, the reserved quantities, the arrivals, the orders, the day, the "
            + "shipment log and all totals as they were before the action.");
        OrderAssembler x = Check.loaded("part a 500 1;part b 500 7;product p 1 a 2 b;order p 99 1 0;order p 9 9 9 whole;");
        // More shipments than the log keeps, so that undoing one brings back the oldest.
        for (int time = 0; time < 17; time++) {
            x.reserve(0, 1 + time % 3);
            x.ship(0);
            x.advance(1);
        }
        for (int time = 0; time < 20; time++) {
            x.buy(1, 1 + time);
        }
        x.reserve(0, 10);
        x.reserve(1, 9);
        Check.Call[] actions = {() -> x.ship(0), () -> x.ship(1), () -> x.adjust(0, 3), () -> x.adjust(1, 0),
            () -> x.advance(1), () -> x.advance(7), () -> x.advance(100), () -> x.cancel(0), () -> x.cancel(1),
            () -> x.release(0, 10), () -> x.release(1, 9), () -> x.reserve(0, 1), x::allocate,
            () -> x.addOrder(0, 99, 9, 999, true)};
        for (int k = 0; k < actions.length; k++) {
            String before = Check.all(x);
            actions[k].answer();
            Check.due("undo of action " + k, x.undo(), 11);
            // The action pushed the oldest record out of the twelve; all else is as it was.
            String due = before.replace(" 17 12|", " 17 11|");
            Check.due("the state after undoing action " + k, Check.all(x), due);
            x.adjust(0, x.stock(0));
        }
        undoRestoresArrivals();
        OrderAssembler y = Check.loaded(TEN);
        String before = Check.all(y);
        y.buy(0, 999);
        y.undo();
        Check.due("the state after undoing buy", Check.all(y), before);
        Check.due("the total after undoing buy", y.total(4), 0);
        Check.due("the arrivals after undoing buy", y.count(4), 0);
    }

    private static void undoRestoresArrivals() {
        OrderAssembler x = Check.loaded("part a 0 3;part b 0 1;part c 0 2;");
        x.buy(1, 10);
        x.buy(0, 20);
        x.buy(2, 30);
        String[] states = new String[4];
        for (int day = 0; day < 4; day++) {
            states[day] = Check.all(x);
            x.advance(1);
            x.buy(day % 3, 5 + day);
        }
        for (int day = 3; day >= 0; day--) {
            x.undo();
            x.undo();
            Check.due("the arrivals on day " + day, Check.all(x), states[day]);
        }
        Check.due("all come again", x.advance(3), 3);
        Check.due("with all their pieces", x.stock(0) * 10000 + x.stock(1) * 100 + x.stock(2), 201030);
    }

    private static void undoOfNone() {
        Check.says("Returns the number of actions that can still be undone; NONE, and nothing changes, if there was none.");
        OrderAssembler x = new OrderAssembler();
        Check.none("undo() of a new object", x.undo());
        Check.none("undo() of a new object again", x.undo());
        Check.due("a new object", Check.everything(x), Check.everything(new OrderAssembler()));
        OrderAssembler y = Check.loaded(Check.FURNITURE);
        y.formatOrder(0);
        String before = Check.everything(y);
        Check.none("undo() after load", y.undo());
        Check.due("everything after it", Check.everything(y), before);
        y.allocate();
        Check.due("undo() of one", y.undo(), 0);
        Check.none("undo() of one more", y.undo());
        Check.due("everything after that", Check.everything(y), before);
    }

    private static void undoDepth() {
        Check.says("Returns the number of actions that can be undone.");
        OrderAssembler x = Check.loaded(Check.FURNITURE);
        Check.due("at first", x.undoDepth(), 0);
        for (int time = 1; time <= 30; time++) {
            x.allocate();
            Check.due("after " + time, x.undoDepth(), Math.min(time, 12));
        }
        Check.badArgument("a refused action", () -> x.advance(0));
        Check.due("after a refused action", x.undoDepth(), 12);
        x.undo();
        Check.due("after undo", x.undoDepth(), 11);
        Check.enter(x, "?");
        Check.badArgument("a wrong text", x::load);
        Check.due("after a wrong text", x.undoDepth(), 11);
        x.load();
        Check.due("after load", x.undoDepth(), 0);
    }
}
