/** The boundary cases of orders, allocation, promise dates and trials (promises 24 to 42): a method for each sentence. */
public final class OrderBoundaryTest {
    private static final String TEN = "part a 10 1;product p 1 a;";

    private OrderBoundaryTest() { }

    public static void main(String[] args) {
        Check.run(OrderBoundaryTest::ordersFromZero);
        Check.run(OrderBoundaryTest::openReservedShipped);
        Check.run(OrderBoundaryTest::reservingAUnit);
        Check.run(OrderBoundaryTest::done);
        Check.run(OrderBoundaryTest::cancelled);
        Check.run(OrderBoundaryTest::openUnitsOfCancelled);
        Check.run(OrderBoundaryTest::whole);
        Check.run(OrderBoundaryTest::states);
        Check.run(OrderBoundaryTest::orderField);
        Check.run(OrderBoundaryTest::missing);
        Check.run(OrderBoundaryTest::toBuy);
        Check.run(OrderBoundaryTest::scarcest);
        Check.run(OrderBoundaryTest::noRungs);
        Check.run(OrderBoundaryTest::mostRungs);
        Check.run(OrderBoundaryTest::rungsInOrder);
        Check.run(OrderBoundaryTest::quotas);
        Check.run(OrderBoundaryTest::quotasAtTheBeginningOfARung);
        Check.run(OrderBoundaryTest::classesOfARung);
        Check.run(OrderBoundaryTest::turns);
        Check.run(OrderBoundaryTest::asManyAsPossible);
        Check.run(OrderBoundaryTest::wholeInAllocation);
        Check.run(OrderBoundaryTest::subtractedFromQuotas);
        Check.run(OrderBoundaryTest::presentDay);
        Check.run(OrderBoundaryTest::arrivalsUpToADay);
        Check.run(OrderBoundaryTest::notLaterThanLeadTime);
        Check.run(OrderBoundaryTest::latestOfAllParts);
        Check.run(OrderBoundaryTest::promiseRange);
        Check.run(OrderBoundaryTest::promiseOf);
        Check.run(OrderBoundaryTest::delayingPart);
        Check.run(OrderBoundaryTest::lateOrders);
        Check.run(OrderBoundaryTest::wouldGet);
        Check.run(OrderBoundaryTest::rungOf);
        Check.run(OrderBoundaryTest::rungUnits);
        Check.run(OrderBoundaryTest::missingPieces);
        Check.run(OrderBoundaryTest::buildableAfter);
        Check.run(OrderBoundaryTest::buildableAfterRange);
        Check.run(OrderBoundaryTest::coveredOrders);
        Check.run(OrderBoundaryTest::promiseOfAll);
        Check.run(OrderBoundaryTest::trialsChangeNothing);
        Check.run(OrderBoundaryTest::greatQuantities);
        Check.end();
    }

    private static void ordersFromZero() {
        Check.says("There are at most 20 orders, numbered from 0.");
        StringBuilder text = new StringBuilder(TEN);
        for (int order = 0; order < 20; order++) {
            text.append("order p ").append(order + 1).append(" 1 1;");
        }
        OrderAssembler x = Check.loaded(text.toString());
        Check.due("20 orders", x.count(2), 20);
        for (int order = 0; order < 20; order++) {
            Check.due("the quantity of " + order, x.orderField(order, 1), order + 1);
        }
        Check.outside("a 21st order", () -> x.stateOf(20));
        Check.refused(x, "addOrder of a 21st", IllegalStateException.class, () -> x.addOrder(0, 1, 1, 1, false));
    }

    private static void units(OrderAssembler x, int order, int... due) {
        Check.due("stateOf(" + order + ")", x.stateOf(order), due[0]);
        Check.due("openUnits(" + order + ")", x.openUnits(order), due[1]);
        Check.due("reservedUnits(" + order + ")", x.reservedUnits(order), due[2]);
        Check.due("shippedUnits(" + order + ")", x.shippedUnits(order), due[3]);
    }

    private static void openReservedShipped() {
        Check.says("Some of its units are shipped, and some of the others are reserved; the rest of its units are open.");
        OrderAssembler x = Check.loaded("part a 9999 1;product p 1 a;order p 99 1 1;order p 1 1 1;");
        units(x, 0, OrderAssembler.OPEN, 99, 0, 0);
        x.reserve(0, 98);
        units(x, 0, OrderAssembler.OPEN, 1, 98, 0);
        x.reserve(0, 1);
        units(x, 0, OrderAssembler.RESERVED, 0, 99, 0);
        x.release(0, 99);
        units(x, 0, OrderAssembler.OPEN, 99, 0, 0);
        x.reserve(0, 1);
        x.ship(0);
        units(x, 0, OrderAssembler.OPEN, 98, 0, 1);
        x.reserve(0, 98);
        units(x, 0, OrderAssembler.RESERVED, 0, 98, 1);
        x.release(0, 1);
        units(x, 0, OrderAssembler.OPEN, 1, 97, 1);
        x.ship(0);
        units(x, 0, OrderAssembler.OPEN, 1, 0, 98);
        units(x, 1, OrderAssembler.OPEN, 1, 0, 0);
    }

    private static void reservingAUnit() {
        Check.says("Reserving a unit of a product increases the reserved quantity of each part by the need of the "
            + "product for it.");
        OrderAssembler x = Check.loaded("part a 9999 1;part b 9999 1;part c 9999 1;product p 20 a 1 c;product q 20 p;"
            + "order q 24 1 1;");
        x.reserve(0, 1);
        Check.due("reserved(0)", x.reserved(0), 400);
        Check.due("reserved(1)", x.reserved(1), 0);
        Check.due("reserved(2)", x.reserved(2), 20);
        x.reserve(0, 23);
        Check.due("reserved(0) of 24", x.reserved(0), 9600);
        Check.due("reserved(2) of 24", x.reserved(2), 480);
    }

    private static void done() {
        Check.says("An order is done if all of its units are shipped.");
        OrderAssembler x = Check.loaded(TEN + "order p 2 1 1;order p 1 1 1 whole;");
        x.reserve(0, 1);
        x.ship(0);
        units(x, 0, OrderAssembler.OPEN, 1, 0, 1);
        x.reserve(0, 1);
        units(x, 0, OrderAssembler.RESERVED, 0, 1, 1);
        x.ship(0);
        units(x, 0, OrderAssembler.DONE, 0, 0, 2);
        x.reserve(1, 1);
        x.ship(1);
        units(x, 1, OrderAssembler.DONE, 0, 0, 1);
    }

    private static void cancelled() {
        Check.says("a cancelled order has no reserved units, and its units that are not shipped do not count as open");
        OrderAssembler x = Check.loaded(TEN + "order p 6 1 0;");
        x.reserve(0, 2);
        x.ship(0);
        x.reserve(0, 3);
        x.cancel(0);
        units(x, 0, OrderAssembler.CANCELLED, 0, 0, 2);
        Check.due("reserved(0)", x.reserved(0), 0);
        Check.due("missing", x.missing(0, 0), 0);
        x.adjust(0, 0);
        Check.due("missing of no stock", x.missing(0, 0), 0);
        Check.due("missingPieces", x.missingPieces(0), 0);
        Check.due("toBuy", x.toBuy(0), 0);
        Check.none("scarcestPart", x.scarcestPart());
        Check.due("lateOrders", x.lateOrders(), 0);
        Check.due("promiseOfAll", x.promiseOfAll(), 0);
        x.adjust(0, 10);
        Check.due("wouldGet", x.wouldGet(0), 0);
        Check.none("rungOf", x.rungOf(0));
        Check.due("coveredOrders", x.coveredOrders(), 0);
        Check.due("allocate", x.allocate(), 0);
        Check.due("the quantity stays", x.orderField(0, 1), 6);
        OrderAssembler y = Check.loaded(TEN + "order p 1 1 1;");
        y.cancel(0);
        units(y, 0, OrderAssembler.CANCELLED, 0, 0, 0);
    }

    private static void openUnitsOfCancelled() {
        Check.says("Returns the number of open units of the order (0 if it is cancelled).");
        OrderAssembler x = Check.loaded(TEN + "order p 1 1 1;order p 99 1 1;order p 4 1 1 whole;");
        Check.due("one open unit", x.openUnits(0), 1);
        Check.due("99 open units", x.openUnits(1), 99);
        Check.due("the open units of a whole order", x.openUnits(2), 4);
        for (int order = 0; order < 3; order++) {
            x.cancel(order);
            Check.due("openUnits(" + order + ") of a cancelled order", x.openUnits(order), 0);
        }
        x.undo();
        Check.due("the open units of an order that is no longer cancelled", x.openUnits(2), 4);
    }

    private static void whole() {
        Check.says("A whole order has either no reserved and no shipped units, or all of its units are reserved, or all "
            + "are shipped.");
        OrderAssembler x = Check.loaded(TEN + "order p 3 1 1 whole;");
        for (int units : new int[] {1, 2, 4}) {
            Check.refused(x, "reserve " + units, IllegalStateException.class, () -> x.reserve(0, units));
        }
        x.reserve(0, 3);
        units(x, 0, OrderAssembler.RESERVED, 0, 3, 0);
        for (int units : new int[] {1, 2, 4}) {
            Check.refused(x, "release " + units, IllegalStateException.class, () -> x.release(0, units));
        }
        Check.due("adjust below it", x.adjust(0, 2), 3);
        units(x, 0, OrderAssembler.OPEN, 3, 0, 0);
        Check.due("allocate of too little", x.allocate(), 0);
        x.adjust(0, 3);
        Check.due("allocate of just enough", x.allocate(), 3);
        x.ship(0);
        units(x, 0, OrderAssembler.DONE, 0, 0, 3);
    }

    private static void states() {
        Check.says("Returns OPEN, RESERVED, DONE or CANCELLED.");
        OrderAssembler x = Check.loaded(TEN + "order p 2 1 1;order p 2 1 1;");
        Check.due("open", x.stateOf(0), 0);
        x.reserve(0, 2);
        Check.due("reserved", x.stateOf(0), 1);
        x.ship(0);
        Check.due("done", x.stateOf(0), 2);
        x.reserve(1, 2);
        x.cancel(1);
        Check.due("cancelled", x.stateOf(1), 3);
        x.undo();
        Check.due("reserved again", x.stateOf(1), 1);
        x.adjust(0, 0);
        Check.due("open again", x.stateOf(1), 0);
    }

    private static void orderField() {
        Check.says("Returns that property of the order; NONE if what is not 0 to 4.");
        OrderAssembler x = Check.loaded(Texts.parts(1) + Texts.products(8) + "order w 99 9 999 whole;order p 1 0 0;");
        int[][] due = {{7, 99, 9, 999, 1}, {0, 1, 0, 0, 0}};
        for (int order = 0; order < 2; order++) {
            for (int what = 0; what < 5; what++) {
                Check.due("orderField(" + order + ", " + what + ")", x.orderField(order, what), due[order][what]);
            }
            Check.none("orderField(" + order + ", -1)", x.orderField(order, -1));
            Check.none("orderField(" + order + ", 5)", x.orderField(order, 5));
            for (int what : Check.FAR_OUT) {
                Check.none("orderField(" + order + ", " + what + ")", x.orderField(order, what));
            }
        }
    }

    private static void missing() {
        Check.says("open units * need - free quantity, but not less than 0");
        OrderAssembler x = Check.loaded("part a 10 1;part b 10 1;product p 2 a;order p 5 1 1;order p 1 1 1;");
        Check.due("just enough", x.missing(0, 0), 0);
        x.adjust(0, 9);
        Check.due("one too few", x.missing(0, 0), 1);
        x.adjust(0, 11);
        Check.due("one too many", x.missing(0, 0), 0);
        x.adjust(0, 0);
        Check.due("all", x.missing(0, 0), 10);
        Check.due("of a part that it does not need", x.missing(0, 1), 0);
        x.adjust(0, 10);
        x.reserve(0, 4);
        Check.due("of the open units", x.missing(0, 0), 0);
        x.reserve(1, 1);
        Check.due("of what is free", x.missing(0, 0), 2);
        x.buy(0, 100);
        Check.due("arrivals do not count", x.missing(0, 0), 2);
        x.release(1, 1);
        x.reserve(0, 1);
        Check.due("with no open units", x.missing(0, 0), 0);
    }

    private static void toBuy() {
        Check.says("the sum of open units * need - free quantity - all arrivals of the part, but not less than 0");
        OrderAssembler x = Check.loaded("part a 10 1;part b 0 60;product p 2 a;product q 1 a 3 b;order p 3 1 1;order q 4 1 1;");
        Check.due("just enough", x.toBuy(0), 0);
        x.adjust(0, 9);
        Check.due("one too few", x.toBuy(0), 1);
        x.adjust(0, 9999);
        Check.due("too many", x.toBuy(0), 0);
        Check.due("all", x.toBuy(1), 12);
        x.buy(1, 11);
        Check.due("with an arrival", x.toBuy(1), 1);
        x.buy(1, 1);
        Check.due("with two arrivals", x.toBuy(1), 0);
        x.buy(1, 1);
        Check.due("with three arrivals", x.toBuy(1), 0);
        x.buy(0, 5);
        Check.due("with arrivals of another part", x.toBuy(1), 0);
        x.cancel(1);
        Check.due("for no open units", x.toBuy(1), 0);
        Check.due("for no orders", Check.loaded("part a 0 1;product p 1 a;").toBuy(0), 0);
    }

    private static void scarcest() {
        Check.says("Returns the part with the greatest toBuy; of several the lowest number; NONE if it is 0 for all "
            + "parts.");
        OrderAssembler x = Check.loaded("part a 9 1;part b 9 1;part c 9 1;product p 3 a 3 b 3 c;order p 3 1 1;");
        Check.none("when it is 0 for all", x.scarcestPart());
        x.adjust(2, 8);
        Check.due("the last", x.scarcestPart(), 2);
        x.adjust(1, 8);
        Check.due("the lowest of two", x.scarcestPart(), 1);
        x.adjust(0, 8);
        Check.due("the lowest of three", x.scarcestPart(), 0);
        x.adjust(1, 7);
        Check.due("the greatest in the middle", x.scarcestPart(), 1);
        x.adjust(2, 7);
        Check.due("the lowest of the greatest", x.scarcestPart(), 1);
        Check.none("without parts", new OrderAssembler().scarcestPart());
        Check.none("without orders", Check.loaded("part a 0 1;product p 1 a;").scarcestPart());
        Check.due("the twelfth", Check.loaded(Texts.parts(12) + "product p 2 l;order p 1 1 1;").scarcestPart(), 11);
    }

    private static void noRungs() {
        Check.says("If the text has no rungs, there is one rung with the classes 0 to 9 and the share 100.");
        StringBuilder text = new StringBuilder(TEN);
        for (int level = 0; level <= 9; level++) {
            text.append("order p 1 ").append(level).append(" 1;");
        }
        OrderAssembler x = Check.loaded(text.toString());
        Check.due("count(3)", x.count(3), 1);
        Check.due("rungUnits(0)", x.rungUnits(0), 10);
        Check.due("rungOf the lowest class", x.rungOf(0), 0);
        Check.due("rungOf the highest class", x.rungOf(9), 0);
        Check.outside("rungUnits(1)", () -> x.rungUnits(1));
        Check.due("one rung of its own", Check.loaded(TEN + "rung 1 2 3;").count(3), 1);
        OrderAssembler y = Check.loaded(TEN + "rung 1 2 3;order p 1 5 5;");
        Check.due("the text's own rung alone", y.wouldGet(0), 0);
    }

    private static void mostRungs() {
        Check.says("There are at most 6 rungs, numbered from 0 in the order of the input text.");
        OrderAssembler x = Check.loaded("part a 100 1;product p 1 a;rung 9 9 10;rung 8 8 10;rung 7 7 10;rung 6 6 10;"
            + "rung 5 5 10;rung 4 4 100;order p 99 9 1;order p 99 8 1;order p 99 7 1;order p 99 6 1;order p 99 5 1;"
            + "order p 99 4 1;order p 99 3 1;");
        int[] due = {10, 9, 8, 7, 6, 60};
        for (int rung = 0; rung < 6; rung++) {
            Check.due("rungUnits(" + rung + ")", x.rungUnits(rung), due[rung]);
            Check.due("rungOf(" + rung + ")", x.rungOf(rung), rung);
            Check.due("wouldGet(" + rung + ")", x.wouldGet(rung), due[rung]);
        }
        Check.outside("a 7th rung", () -> x.rungUnits(6));
        Check.none("rungOf the order that is in no rung", x.rungOf(6));
        Check.due("allocate()", x.allocate(), 100);
    }

    private static void gets(String text, int... units) {
        OrderAssembler x = Check.loaded(text);
        int sum = 0;
        for (int order = 0; order < units.length; order++) {
            Check.due("wouldGet(" + order + ") of " + text, x.wouldGet(order), units[order]);
            sum += units[order];
        }
        Check.due("allocate() of " + text, x.allocate(), sum);
        for (int order = 0; order < units.length; order++) {
            Check.due("reservedUnits(" + order + ") of " + text, x.reservedUnits(order), units[order]);
        }
    }

    private static void rungsInOrder() {
        Check.says("The rungs are gone through in order.");
        gets(TEN + "rung 0 0 100;rung 9 9 100;order p 9 9 1;order p 9 0 9;", 1, 9);
        gets(TEN + "rung 9 9 100;rung 0 0 100;order p 9 9 1;order p 9 0 9;", 9, 1);
        gets(TEN + "rung 5 5 50;rung 5 5 50;rung 5 5 50;order p 10 5 1;", 5 + 2 + 1);
    }

    private static void quotas() {
        Check.says("At the beginning of a rung, each part gets a quota: its free quantity * share / 100, rounded down.");
        String bill = "product p 1 a;rung 0 9 ";
        gets("part a 99 1;" + bill + "1;order p 99 1 1;", 0);
        gets("part a 100 1;" + bill + "1;order p 99 1 1;", 1);
        gets("part a 199 1;" + bill + "1;order p 99 1 1;", 1);
        gets("part a 1 1;" + bill + "99;order p 99 1 1;", 0);
        gets("part a 1 1;" + bill + "100;order p 99 1 1;", 1);
        gets("part a 0 1;" + bill + "100;order p 99 1 1;", 0);
        gets("part a 3 1;" + bill + "50;order p 99 1 1;", 1);
        gets("part a 9999 1;" + bill + "1;order p 99 1 1;order p 99 1 2;", 99, 0);
        gets("part a 9999 1;product p 20 a;rung 0 9 100;" + "order p 99 1 1;".repeat(6), 99, 99, 99, 99, 99, 4);
        Check.says("each part gets a quota");
        gets("part a 100 1;part b 19 1;product p 1 a 1 b;" + "rung 0 9 10;order p 99 1 1;", 1);
        gets("part a 19 1;part b 100 1;product p 1 a 1 b;" + "rung 0 9 10;order p 99 1 1;", 1);
    }

    private static void quotasAtTheBeginningOfARung() {
        Check.says("At the beginning of a rung");
        // 10 * 50 / 100 = 5 for the first two together, then (10 - 5) * 50 / 100 = 2, then all 3 that are left.
        gets(TEN + "rung 5 5 50;rung 0 9 50;rung 0 9 100;order p 4 5 1;order p 4 5 2;order p 4 4 3;", 4, 1 + 2 + 1, 2);
        OrderAssembler x = Check.loaded(TEN + "rung 0 9 50;order p 4 5 9;order p 9 5 1;");
        x.reserve(0, 4);
        Check.due("the quota of what is free", x.wouldGet(1), 3);
        Check.due("allocate()", x.allocate(), 3);
        Check.due("allocate() again", x.allocate(), 1);
        Check.due("allocate() a third time", x.allocate(), 1);
        Check.due("allocate() when the quota is 0", x.allocate(), 0);
    }

    private static void classesOfARung() {
        Check.says("Its orders are those with open units whose class is from the lowest to the highest class of the "
            + "rung");
        gets("part a 9 1;product p 1 a;rung 3 5 100;order p 1 2 1;order p 1 3 1;order p 1 4 1;order p 1 5 1;"
            + "order p 1 6 1;", 0, 1, 1, 1, 0);
        gets(TEN + "rung 0 0 100;order p 1 0 1;order p 1 1 1;", 1, 0);
        gets(TEN + "rung 9 9 100;order p 1 9 1;order p 1 8 1;", 1, 0);
        OrderAssembler x = Check.loaded(TEN + "rung 0 9 100;order p 2 1 1;order p 2 1 1;order p 2 1 1;order p 20 1 2;");
        x.reserve(0, 2);
        x.cancel(1);
        x.reserve(2, 2);
        x.ship(2);
        Check.due("without open units", x.wouldGet(0), 0);
        Check.due("cancelled", x.wouldGet(1), 0);
        Check.due("done", x.wouldGet(2), 0);
        Check.due("the only one", x.wouldGet(3), 6);
        Check.due("rungUnits(0)", x.rungUnits(0), 6);
    }

    private static void turns() {
        Check.says("ordered by the due day, the earliest first; then by the class, the highest first; then by their "
            + "numbers");
        gets(TEN + "order p 9 9 1;order p 9 0 0;", 1, 9);
        gets(TEN + "order p 9 0 0;order p 9 9 1;", 9, 1);
        gets(TEN + "order p 9 5 999;order p 9 5 998;", 1, 9);
        gets(TEN + "order p 9 8 3;order p 9 9 3;", 1, 9);
        gets(TEN + "order p 9 9 3;order p 9 8 3;", 9, 1);
        gets(TEN + "order p 9 0 3;order p 9 1 3;", 1, 9);
        gets(TEN + "order p 9 5 3;order p 9 5 3;order p 9 5 3;", 9, 1, 0);
        gets("part a 20 1;product p 1 a;order p 5 1 7;order p 5 2 7;order p 5 2 6;order p 5 1 6;order p 5 2 6;order p 5 9 8;",
            0, 5, 5, 5, 5, 0);
    }

    private static void asManyAsPossible() {
        Check.says("as many of its open units as possible are reserved, such that for each part the units * the need of "
            + "the product for it are at most what is left of its quota");
        gets("part a 20 1;product p 20 a;order p 2 1 1;", 1);
        gets("part a 19 1;product p 20 a;order p 2 1 1;", 0);
        gets("part a 39 1;product p 20 a;order p 2 1 1;", 1);
        gets("part a 40 1;product p 20 a;order p 2 1 1;", 2);
        gets("part a 41 1;product p 20 a;order p 2 1 1;", 2);
        gets("part a 40 1;part b 1 1;product p 20 a 1 b;order p 2 1 1;", 1);
        gets("part a 40 1;part b 0 1;product p 20 a 1 b;order p 2 1 1;", 0);
        gets("part a 40 1;part b 0 1;product p 20 a;order p 2 1 1;", 2);
        // An order that gets nothing does not stop those behind it.
        gets("part a 19 1;product p 20 a;product q 1 a;order p 2 1 1;order q 9 1 2;", 0, 9);
    }

    private static void wholeInAllocation() {
        Check.says("a whole order gets all of its units or none");
        gets(TEN + "order p 11 1 1 whole;order p 9 1 2;", 0, 9);
        gets(TEN + "order p 10 1 1 whole;order p 9 1 2;", 10, 0);
        gets(TEN + "order p 9 1 1 whole;order p 9 1 2;", 9, 1);
        gets(TEN + "order p 9 1 1;order p 2 1 2 whole;order p 1 1 3 whole;", 9, 0, 1);
        gets(TEN + "rung 0 9 50;rung 0 9 100;order p 6 1 1 whole;order p 5 1 1 whole;", 0, 5);
        gets(TEN + "rung 0 9 50;rung 0 9 100;order p 6 1 1 whole;order p 4 1 1 whole;", 6, 4);
    }

    private static void subtractedFromQuotas() {
        Check.says("What is reserved is subtracted from the quotas.");
        gets("part a 20 1;product p 1 a;rung 0 9 50;order p 10 1 1;order p 10 1 2;", 10, 0);
        gets("part a 20 1;product p 1 a;rung 0 9 50;order p 9 1 1;order p 10 1 2;", 9, 1);
        gets("part a 9 1;part b 9 1;product p 3 a 1 b;product q 1 b;order p 2 1 1;order q 99 1 2;order p 9 1 3;", 2, 7, 0);
        gets("part a 9 1;part b 9 1;product p 3 a 1 b;product q 1 b;order p 2 1 1;order q 6 1 2;order p 9 1 3;", 2, 6, 1);
    }

    private static void presentDay() {
        Check.says("The day of a part for a number of pieces is the present day if its free quantity is at least this "
            + "number.");
        OrderAssembler x = Check.loaded("part a 12 9;product p 4 a;order p 1 1 1;");
        Check.due("just enough", x.promise(0, 3), 0);
        Check.due("not enough", x.promise(0, 4), 9);
        x.adjust(0, 11);
        Check.due("one too few", x.promise(0, 3), 9);
        x.adjust(0, 16);
        x.advance(5);
        Check.due("just enough on day 5", x.promise(0, 4), 5);
        x.reserve(0, 1);
        Check.due("just enough of what is free", x.promise(0, 3), 5);
        Check.due("not enough of what is free", x.promise(0, 4), 14);
        x.adjust(0, 0);
        Check.due("none at all", x.promise(0, 1), 14);
    }

    private static void arrivalsUpToADay() {
        Check.says("the earliest day on which its free quantity, plus all arrivals of the part up to and including this "
            + "day, is at least this number");
        OrderAssembler x = Check.loaded("part a 1 10;part b 1 3;product p 1 a;order p 1 1 1;");
        x.buy(0, 2);
        x.buy(0, 1);
        x.buy(1, 50);
        x.advance(1);
        x.buy(0, 3);
        x.advance(1);
        x.buy(0, 1);
        x.advance(1);
        // On day 3: 1 free; 3 arrive on day 10, 3 on day 11, 1 on day 12.
        int[] days = {3, 10, 10, 10, 11, 11, 11, 12, 13, 13};
        for (int units = 1; units <= 10; units++) {
            Check.due("promise of " + units, x.promise(0, units), days[units - 1]);
        }
        x.reserve(0, 1);
        for (int units = 1; units <= 9; units++) {
            Check.due("promise of " + units + " with none free", x.promise(0, units), days[units]);
        }
        x.advance(7);
        Check.due("when the first have come", x.promise(0, 3), 10);
        Check.due("when the first have come, one more", x.promise(0, 4), 11);
    }

    private static void notLaterThanLeadTime() {
        Check.says("but not later than the present day plus its lead time (as if the pieces were bought now)");
        OrderAssembler x = Check.loaded("part a 0 1;part b 0 60;product p 1 a;product q 1 b;");
        Check.due("the least lead time", x.promise(0, 1), 1);
        Check.due("the greatest lead time", x.promise(1, 999), 60);
        x.buy(1, 998);
        Check.due("with arrivals on the same day", x.promise(1, 998), 60);
        Check.due("with too few arrivals on the same day", x.promise(1, 999), 60);
        x.advance(1);
        Check.due("by the arrivals", x.promise(1, 998), 60);
        Check.due("with too few arrivals", x.promise(1, 999), 61);
        x.advance(59);
        Check.due("when they came", x.promise(1, 998), 60);
        Check.due("when too few came", x.promise(1, 999), 120);
    }

    private static void latestOfAllParts() {
        Check.says("The promise date for some units of a product is the latest of the days of all parts that it needs, "
            + "for the units * the need.");
        OrderAssembler x = Check.loaded("part z 0 60;part a 4 9;part b 6 3;part c 9 5;product p 2 a 3 b 3 c;");
        Check.due("all there", x.promise(0, 2), 0);
        Check.due("two of three lack", x.promise(0, 3), 9);
        x.adjust(1, 99);
        Check.due("one of three lacks", x.promise(0, 3), 3);
        Check.due("two others lack", x.promise(0, 4), 5);
        x.adjust(2, 99);
        Check.due("a part that it does not need", x.promise(0, 3), 0);
    }

    private static void promiseRange() {
        Check.says("Throws IllegalArgumentException if units is out of range");
        OrderAssembler x = Check.loaded(TEN);
        Check.due("the least", x.promise(0, 1), 0);
        Check.due("the greatest", x.promise(0, 999), 1);
        for (int units : new int[] {0, -1, 1000, Integer.MIN_VALUE, Integer.MAX_VALUE}) {
            Check.refused(x, "promise of " + units, IllegalArgumentException.class, () -> x.promise(0, units));
        }
    }

    private static void promiseOf() {
        Check.says("Returns the promise date for the open units of the order; the present day if it has none; NONE if it "
            + "is done or cancelled.");
        OrderAssembler x = Check.loaded("part a 5 9;product p 1 a;order p 6 1 1;order p 5 1 1;order p 1 1 1;");
        Check.due("one too few", x.promiseOf(0), 9);
        Check.due("just enough", x.promiseOf(1), 0);
        x.reserve(1, 5);
        x.advance(2);
        Check.due("with no open units", x.promiseOf(1), 2);
        Check.due("with none free", x.promiseOf(2), 11);
        x.ship(1);
        Check.none("done", x.promiseOf(1));
        x.cancel(2);
        Check.none("cancelled", x.promiseOf(2));
        x.adjust(0, 1);
        x.reserve(0, 1);
        x.ship(0);
        Check.due("partly shipped", x.promiseOf(0), 11);
        x.cancel(0);
        Check.none("partly shipped and cancelled", x.promiseOf(0));
    }

    private static void delayingPart() {
        Check.says("Returns of the parts that the product of the order needs, the one with the latest day for the open "
            + "units of the order; of several the lowest number; NONE if the order has no open units.");
        OrderAssembler x = Check.loaded("part z 0 60;part a 9 3;part b 9 7;part c 9 7;product p 1 c 1 b 1 a;order p 5 1 1;");
        Check.due("all on the present day", x.delayingPart(0), 1);
        x.adjust(3, 4);
        Check.due("the last", x.delayingPart(0), 3);
        x.adjust(2, 4);
        Check.due("the lowest of two", x.delayingPart(0), 2);
        x.adjust(1, 4);
        Check.due("the latest, not the lowest", x.delayingPart(0), 2);
        x.reserve(0, 2);
        Check.due("for the open units", x.delayingPart(0), 2);
        x.adjust(2, 5);
        Check.due("just enough of one", x.delayingPart(0), 3);
        x.adjust(1, 5);
        x.adjust(3, 5);
        Check.due("just enough of all", x.delayingPart(0), 1);
        x.reserve(0, 3);
        Check.none("with no open units", x.delayingPart(0));
        x.ship(0);
        Check.none("done", x.delayingPart(0));
        OrderAssembler y = Check.loaded("part a 0 1;product p 1 a;order p 1 1 1;");
        Check.due("one open unit", y.delayingPart(0), 0);
        y.cancel(0);
        Check.none("cancelled", y.delayingPart(0));
    }

    private static void lateOrders() {
        Check.says("Returns the set of the orders with open units whose promise date is after their due day, as a bit "
            + "set (bit k stands for order k).");
        OrderAssembler x = Check.loaded("part a 1 5;product p 1 a;order p 2 1 4;order p 2 1 5;order p 2 1 6;order p 1 1 0;");
        Check.due("a day before, on and after the due day", x.lateOrders(), 1);
        x.advance(1);
        Check.due("a day later", x.lateOrders(), 1 + 2 + 8);
        x.reserve(3, 1);
        Check.due("with no open units", x.lateOrders(), 1 + 2);
        x.cancel(0);
        Check.due("cancelled", x.lateOrders(), 2);
        x.advance(1);
        Check.due("two days later", x.lateOrders(), 2 + 4);
        Check.due("no orders", Check.loaded(TEN).lateOrders(), 0);
        OrderAssembler y = Check.loaded("part a 0 5;product p 1 a;" + "order p 2 1 4;".repeat(20));
        Check.due("20 orders", y.lateOrders(), (1 << 20) - 1);
    }

    private static void wouldGet() {
        Check.says("Returns the number of units of the order that an allocation now would reserve.");
        OrderAssembler x = Check.loaded(TEN + "rung 5 9 10;rung 5 9 10;rung 0 9 50;order p 9 5 1;order p 9 4 2;");
        Check.due("in several rungs", x.wouldGet(0), 1 + 0 + 4);
        Check.due("in one rung", x.wouldGet(1), 0);
        Check.due("it reserves nothing", x.reserved(0), 0);
        Check.due("it records nothing", x.undoDepth(), 0);
        x.allocate();
        Check.due("after the allocation", x.wouldGet(0), 0 + 0 + 2);
        x.adjust(0, 5);
        Check.due("with nothing free", x.wouldGet(0), 0);
    }

    private static void rungOf() {
        Check.says("Returns the first rung in which an allocation now would reserve units of the order; NONE if there is "
            + "none.");
        OrderAssembler x = Check.loaded(TEN + "rung 9 9 100;rung 0 5 9;rung 0 5 50;rung 0 5 100;order p 9 5 1;"
            + "order p 9 6 1;order p 6 0 2 whole;order p 1 5 3;");
        Check.due("the first in which it gets something", x.rungOf(0), 2);
        Check.none("in no rung", x.rungOf(1));
        Check.none("whole and never all of it", x.rungOf(2));
        Check.due("in the last rung", x.rungOf(3), 3);
        x.reserve(0, 9);
        Check.none("with no open units", x.rungOf(0));
    }

    private static void rungUnits() {
        Check.says("Returns the number of units that an allocation now would reserve in the rung.");
        OrderAssembler x = Check.loaded(TEN + "rung 1 1 100;rung 0 9 50;rung 0 9 100;order p 2 5 1;order p 99 6 2;");
        int[] due = {0, 5, 5};
        for (int rung = 0; rung < 3; rung++) {
            Check.due("rungUnits(" + rung + ")", x.rungUnits(rung), due[rung]);
        }
        x.adjust(0, 0);
        for (int rung = 0; rung < 3; rung++) {
            Check.due("rungUnits(" + rung + ") of nothing", x.rungUnits(rung), 0);
        }
        Check.due("rungUnits without orders", Check.loaded(TEN).rungUnits(0), 0);
    }

    private static void missingPieces() {
        Check.says("Returns the sum, over all parts, of the pieces that are missing for the open units of the order (see "
            + "missing).");
        OrderAssembler x = Check.loaded(Texts.parts(12) + "product m 1 a 1 b 1 c 1 d 1 e 1 f;product n 1 g 1 h 1 i 1 j 1 k 2 l;"
            + "product p 1 m 1 n;order p 1 1 1;order p 3 1 1;");
        Check.due("one piece of the last part", x.missingPieces(0), 1);
        Check.due("pieces of all parts", x.missingPieces(1), 11 * 2 + 5);
        x.adjust(0, 50);
        Check.due("more of one does not make up for others", x.missingPieces(1), 10 * 2 + 5);
        x.adjust(11, 2);
        Check.due("none is missing", x.missingPieces(0), 0);
        x.reserve(0, 1);
        Check.due("with no open units", x.missingPieces(0), 0);
    }

    private static void buildableAfter() {
        Check.says("if first so many units of the other product are built from them; NONE if they are not enough for "
            + "these units");
        OrderAssembler x = Check.loaded("part a 10 1;part b 0 1;product p 1 a;product q 2 a;product r 1 b;product s 3 a;"
            + "order p 1 1 1;");
        Check.due("none first", x.buildableAfter(0, 1, 0), 10);
        Check.due("none of what cannot be built first", x.buildableAfter(0, 2, 0), 10);
        Check.none("one of what cannot be built first", x.buildableAfter(0, 2, 1));
        Check.due("just enough first", x.buildableAfter(0, 1, 5), 0);
        Check.none("one too many first", x.buildableAfter(0, 1, 6));
        Check.due("one left", x.buildableAfter(0, 3, 3), 1);
        Check.due("nothing of it, after something", x.buildableAfter(2, 0, 10), 0);
        Check.none("the greatest number first", x.buildableAfter(0, 1, 999));
        x.reserve(0, 1);
        Check.none("from what is free", x.buildableAfter(0, 1, 5));
        Check.due("from what is free, one fewer", x.buildableAfter(0, 1, 4), 1);
        Check.due("the greatest number first, and enough", Check.loaded("part a 9999 1;product p 1 a;product q 10 a;")
            .buildableAfter(0, 1, 999), 9);
    }

    private static void buildableAfterRange() {
        Check.says("Throws IllegalArgumentException if both products are the same, or if units is out of range");
        OrderAssembler x = Check.loaded(TEN + "product q 2 a;");
        for (int units : new int[] {-1, 1000, Integer.MIN_VALUE, Integer.MAX_VALUE}) {
            Check.refused(x, "after " + units, IllegalArgumentException.class, () -> x.buildableAfter(0, 1, units));
            Check.refused(x, "of the same after " + units, IllegalArgumentException.class,
                () -> x.buildableAfter(0, 0, units));
        }
        Check.refused(x, "of the same after 0", IllegalArgumentException.class, () -> x.buildableAfter(0, 0, 0));
        Check.refused(x, "of the same after 1", IllegalArgumentException.class, () -> x.buildableAfter(1, 1, 1));
    }

    private static void covered(String text, int set) {
        Check.due("coveredOrders() of " + text, Check.loaded(text).coveredOrders(), set);
    }

    private static void coveredOrders() {
        Check.says("in turn took all of their open units from what is left of the free quantities, or none of them if "
            + "this is not enough (bit k stands for order k)");
        covered(TEN, 0);
        covered(TEN + "order p 10 1 1;", 1);
        covered(TEN + "order p 11 1 1;", 0);
        covered(TEN + "order p 11 1 1;order p 10 1 2;order p 1 1 3;", 2);
        covered(TEN + "order p 9 1 1;order p 2 1 2;order p 1 1 3;", 5);
        covered(TEN + "rung 9 9 1;order p 10 0 1;", 1);
        Check.says("ordered by the due day, then by the class, then by their numbers as in an allocation");
        covered(TEN + "order p 6 9 2;order p 6 0 1;", 2);
        covered(TEN + "order p 6 8 2;order p 6 9 2;", 2);
        covered(TEN + "order p 6 9 2;order p 6 8 2;", 1);
        covered(TEN + "order p 6 5 2;order p 6 5 2;", 1);
        covered("part a 20 1;product p 1 a;" + "order p 1 1 1;".repeat(20), (1 << 20) - 1);
        covered("part a 19 1;product p 1 a;" + "order p 1 1 1;".repeat(20), (1 << 19) - 1);
        Check.says("all orders with open units");
        OrderAssembler x = Check.loaded(TEN + "order p 6 1 1;order p 6 1 2;order p 1 1 3;");
        x.reserve(0, 6);
        Check.due("without open units", x.coveredOrders(), 4);
        x.release(0, 2);
        Check.due("with 2 open units", x.coveredOrders(), 1 + 4);
        x.cancel(0);
        Check.due("cancelled", x.coveredOrders(), 2 + 4);
        x.reserve(2, 1);
        x.ship(2);
        Check.due("done", x.coveredOrders(), 2);
    }

    private static void promiseOfAll() {
        Check.says("the latest of the days of all parts, each for the sum of open units * need over all orders (parts for "
            + "which this sum is 0 do not count); the present day if there are none");
        OrderAssembler x = Check.loaded("part z 0 60;part a 7 9;product y 1 z;product p 1 a;order p 4 1 1;order p 3 1 1;"
            + "order y 1 1 1;");
        x.cancel(2);
        Check.due("just enough for both", x.promiseOfAll(), 0);
        x.adjust(1, 6);
        Check.due("one too few for both", x.promiseOfAll(), 9);
        x.buy(1, 1);
        x.advance(3);
        Check.due("with an arrival", x.promiseOfAll(), 9);
        x.adjust(1, 5);
        Check.due("with an arrival that is too small", x.promiseOfAll(), 12);
        x.reserve(0, 4);
        Check.due("with fewer open units", x.promiseOfAll(), 12);
        x.reserve(1, 1);
        Check.due("with an arrival that is not enough for 2", x.promiseOfAll(), 12);
        x.release(0, 1);
        x.reserve(1, 1);
        Check.due("one open unit each", x.promiseOfAll(), 12);
        x.cancel(0);
        x.reserve(1, 1);
        Check.due("no open units", x.promiseOfAll(), 3);
        Check.due("one piece", Check.loaded("part a 0 9;product p 1 a;order p 1 1 1;").promiseOfAll(), 9);
        Check.due("no orders", Check.loaded("part a 0 9;product p 1 a;").promiseOfAll(), 0);
        Check.due("nothing at all", new OrderAssembler().promiseOfAll(), 0);
    }

    private static void trialsChangeNothing() {
        Check.says("promise dates and trials; nothing changes");
        OrderAssembler x = Check.loaded("part a 30 5;part b 9 8;product p 4 a;product q 1 p 1 b;rung 5 9 50;rung 0 9 100;"
            + "order q 3 7 10;order p 6 2 5;order p 2 9 12 whole;");
        x.reserve(0, 1);
        x.buy(0, 4);
        x.formatOrder(0);
        x.append(0, 0, 0, 0, 0);
        String before = Check.everything(x);
        Check.Call[] trials = {() -> x.promise(1, 9), () -> x.promiseOf(1), () -> x.delayingPart(1), x::lateOrders,
            () -> x.wouldGet(1), () -> x.rungOf(1), () -> x.rungUnits(1), () -> x.missingPieces(1),
            () -> x.buildableAfter(0, 1, 2), x::coveredOrders, x::promiseOfAll};
        for (int trial = 0; trial < trials.length; trial++) {
            long first = trials[trial].answer();
            Check.due("everything after trial " + trial, Check.everything(x), before);
            Check.due("trial " + trial + " again", trials[trial].answer(), first);
        }
    }

    private static void greatQuantities() {
        Check.says("Quantities and days are int values, which may overflow.");
        StringBuilder text = new StringBuilder("part a 0 60;part b 9999 1;product p 20 a;product q 20 p;product r 20 q;"
            + "product s 1 r 4 q 19 p 19 a 1 b;");
        text.append("order s 99 1 1;".repeat(20));
        OrderAssembler x = Check.loaded(text.toString());
        Check.due("missing", x.missing(0, 0), 99 * 9999);
        Check.due("missingPieces", x.missingPieces(0), 99 * 9999);
        Check.due("toBuy", x.toBuy(0), 20 * 99 * 9999);
        Check.due("promise of 999", x.promise(3, 999), 60);
        Check.due("promiseOfAll", x.promiseOfAll(), 60);
        for (int time = 0; time < 20; time++) {
            x.buy(0, 999);
        }
        Check.due("toBuy with 20 arrivals", x.toBuy(0), 20 * 99 * 9999 - 20 * 999);
        x.advance(60);
        Check.due("the stock", x.stock(0), 19980);
        Check.due("buildable", x.buildable(3), 1);
        Check.due("allocate", x.allocate(), 1);
        Check.due("reserved", x.reserved(0), 9999);
    }
}
