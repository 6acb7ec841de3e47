/** Promises 32 to 42: promise dates and trials. */
public final class TrialsTest {
    private TrialsTest() { }

    public static void main(String[] args) {
        promise32Promise();
        promises33To35Dates();
        promises36To38Allocation();
        quotasAndTurns();
        overlappingRungs();
        promise39MissingPieces();
        promise40BuildableAfter();
        promise41CoveredOrders();
        promise42PromiseOfAll();
        nothingChanges();
        Check.end();
    }

    private static void promise32Promise() {
        OrderAssembler x = Check.loaded(Check.FURNITURE);
        Check.due("promise from the stock", x.promise(Check.TABLE, 9), 0);
        Check.due("promise that waits for tops", x.promise(Check.TABLE, 10), 8);
        Check.due("promise that waits for legs", x.promise(Check.STOOL, 14), 5);
        Check.due("promise of 999", x.promise(Check.STOOL, 999), 5);
        Check.due("promise of 1", x.promise(Check.STOOL, 1), 0);
        x.buy(Check.LEG, 2);
        x.advance(1);
        x.buy(Check.LEG, 3);
        Check.due("promise by the first arrival", x.promise(Check.STOOL, 14), 5);
        Check.due("promise by the second arrival", x.promise(Check.STOOL, 15), 6);
        Check.due("promise by a new purchase", x.promise(Check.STOOL, 16), 6);
        x.advance(2);
        Check.due("promise by an arrival, later", x.promise(Check.STOOL, 14), 5);
        Check.due("promise by a new purchase, later", x.promise(Check.STOOL, 16), 8);
        Check.due("promise on a later day", x.promise(Check.STOOL, 13), 3);
        x.reserve(1, 1);
        Check.due("promise from the free quantity", x.promise(Check.STOOL, 13), 5);
        Check.badArgument("promise of 0", () -> x.promise(0, 0));
        Check.badArgument("promise of 1000", () -> x.promise(0, 1000));
        Check.outside("promise of no product", () -> x.promise(3, 0));
    }

    private static void promises33To35Dates() {
        OrderAssembler x = Check.loaded(Check.FURNITURE);
        x.adjust(Check.LEG, 10);
        x.adjust(Check.BOLT, 7);
        Check.due("promiseOf(0)", x.promiseOf(0), 5);
        Check.due("promiseOf(1)", x.promiseOf(1), 5);
        Check.due("promiseOf(2)", x.promiseOf(2), 0);
        Check.due("delayingPart(0)", x.delayingPart(0), Check.LEG);
        Check.due("delayingPart of a present order", x.delayingPart(2), Check.LEG);
        x.adjust(Check.LEG, 40);
        Check.due("promiseOf(0) for bolts", x.promiseOf(0), 2);
        Check.due("delayingPart(0) for bolts", x.delayingPart(0), Check.BOLT);
        x.adjust(Check.TOP, 0);
        Check.due("delayingPart(0) for tops", x.delayingPart(0), Check.TOP);
        Check.due("promiseOf(0) for tops", x.promiseOf(0), 8);
        Check.due("lateOrders() on day 0", x.lateOrders(), 0);
        x.advance(3);
        Check.due("promiseOf(0) on day 3", x.promiseOf(0), 11);
        Check.due("promiseOf(1) on its due day", x.promiseOf(1), 5);
        Check.due("lateOrders() on day 3", x.lateOrders(), 1);
        x.advance(10);
        Check.due("lateOrders() on day 13", x.lateOrders(), 7);
        x.reserve(2, 2);
        Check.due("promiseOf with no open units", x.promiseOf(2), 13);
        Check.due("delayingPart with no open units", x.delayingPart(2), OrderAssembler.NONE);
        Check.due("lateOrders() without the reserved one", x.lateOrders(), 3);
        x.ship(2);
        Check.due("promiseOf a done order", x.promiseOf(2), OrderAssembler.NONE);
        x.cancel(0);
        Check.due("promiseOf a cancelled order", x.promiseOf(0), OrderAssembler.NONE);
        Check.due("delayingPart of a cancelled order", x.delayingPart(0), OrderAssembler.NONE);
        Check.due("lateOrders() without the cancelled one", x.lateOrders(), 2);
        Check.outside("promiseOf(3)", () -> x.promiseOf(3));
        Check.outside("delayingPart(-1)", () -> x.delayingPart(-1));
        OrderAssembler y = Check.loaded("part a 0 7;product p 1 a;order p 1 1 6;order p 1 1 7;");
        Check.due("lateOrders() of single units", y.lateOrders(), 1);
    }

    private static void promises36To38Allocation() {
        OrderAssembler x = Check.loaded(Check.FURNITURE);
        int[] gets = {3, 6, 2};
        int[] rungs = {0, 1, 0};
        for (int order = 0; order < 3; order++) {
            Check.due("wouldGet(" + order + ")", x.wouldGet(order), gets[order]);
            Check.due("rungOf(" + order + ")", x.rungOf(order), rungs[order]);
        }
        Check.due("rungUnits(0)", x.rungUnits(0), 5);
        Check.due("rungUnits(1)", x.rungUnits(1), 6);
        x.adjust(Check.LEG, 32);
        Check.due("rungUnits before anything else is asked", x.rungUnits(0), 3);
        x.adjust(Check.LEG, 0);
        Check.due("wouldGet of nothing", x.wouldGet(0), 0);
        Check.due("rungOf of nothing", x.rungOf(0), OrderAssembler.NONE);
        Check.due("rungUnits of nothing", x.rungUnits(0), 0);
        Check.outside("wouldGet(3)", () -> x.wouldGet(3));
        Check.outside("rungOf(-1)", () -> x.rungOf(-1));
        Check.outside("rungUnits(2)", () -> x.rungUnits(2));
        Check.outside("rungUnits(-1)", () -> x.rungUnits(-1));
    }

    private static void gets(String text, int... units) {
        OrderAssembler x = Check.loaded(text);
        int sum = 0;
        for (int order = 0; order < units.length; order++) {
            Check.due("wouldGet(" + order + ") of " + text, x.wouldGet(order), units[order]);
            sum += units[order];
        }
        Check.due("allocate() of " + text, x.allocate(), sum);
        for (int order = 0; order < units.length; order++) {
            Check.due("reservedUnits(" + order + ") of " + text, x.reservedUnits(order), units[order]);
        }
    }

    private static void quotasAndTurns() {
        String ten = "part a 10 1;product p 1 a;product q 3 a;";
        gets(ten + "order p 8 5 3;order p 8 5 2;", 2, 8);
        gets(ten + "order p 4 0 1;order p 4 9 1;", 4, 4);
        gets(ten + "order p 3 5 5;order p 3 5 4;order p 3 5 1;order p 3 5 3;order p 3 5 2;", 0, 1, 3, 3, 3);
        gets(ten + "order p 3 1 5;order p 3 9 5;order p 3 4 5;order p 3 4 5;order p 3 5 4;", 0, 3, 3, 1, 3);
        gets(ten + "order p 8 5 2;order p 8 6 2;", 2, 8);
        gets(ten + "order p 8 5 2;order p 8 5 2;", 8, 2);
        gets(ten + "order q 9 5 2;order p 8 5 2;", 3, 1);
        gets(ten + "order p 11 5 1 whole;order q 3 5 2 whole;order p 9 5 3;", 0, 3, 1);
        gets(ten + "order p 10 5 1 whole;", 10);
        gets(ten + "rung 5 5 50;order p 9 5 1;order p 9 4 1;order p 9 6 1;", 5, 0, 0);
        gets(ten + "rung 5 6 99;order p 9 5 1;order p 9 6 1;", 0, 9);
        gets(ten + "rung 5 6 9;order p 9 5 1;order p 9 6 1;", 0, 0);
        gets("part a 10 1;part b 4 1;product p 1 a 1 b;product q 2 a;rung 0 9 50;order p 9 1 1;order q 9 1 2;", 2, 1);
    }

    private static void overlappingRungs() {
        String text = "part a 10 1;product p 1 a;rung 3 5 50;rung 4 9 50;rung 0 9 100;"
            + "order p 8 4 7;order p 9 9 8;order p 1 0 1;";
        OrderAssembler x = Check.loaded(text);
        gets(text, 8, 1, 1);
        Check.due("rungOf the first of several rungs", x.rungOf(0), 0);
        Check.due("rungOf the last order", x.rungOf(2), 2);
        Check.due("rungOf the second order", x.rungOf(1), 2);
        Check.due("rungUnits of half of 10", x.rungUnits(0), 5);
        Check.due("rungUnits of half of 5", x.rungUnits(1), 2);
        Check.due("rungUnits of the rest", x.rungUnits(2), 3);
        // A whole order waits for a rung in which all of it fits.
        String whole = "part a 10 1;product p 1 a;rung 0 9 50;rung 0 9 100;order p 7 4 7 whole;order p 2 4 8;";
        gets(whole, 7, 2);
        Check.due("rungOf the whole order", Check.loaded(whole).rungOf(0), 1);
        Check.due("rungOf the order behind it", Check.loaded(whole).rungOf(1), 0);
        OrderAssembler y = Check.loaded(text);
        y.reserve(1, 4);
        Check.due("wouldGet from the free quantity", y.wouldGet(0), 3 + 1 + 1);
        Check.due("wouldGet of open units", y.wouldGet(1), 0);
        y.cancel(0);
        Check.due("wouldGet of a cancelled order", y.wouldGet(0), 0);
        Check.due("wouldGet when another was cancelled", y.wouldGet(1), 5);
    }

    private static void promise39MissingPieces() {
        OrderAssembler x = Check.loaded(Check.FURNITURE);
        Check.due("missingPieces of none", x.missingPieces(0), 0);
        x.adjust(Check.LEG, 10);
        x.adjust(Check.BOLT, 9);
        Check.due("missingPieces(0)", x.missingPieces(0), 2 + 15);
        Check.due("missingPieces(1)", x.missingPieces(1), 8 + 3);
        Check.outside("missingPieces(3)", () -> x.missingPieces(3));
    }

    private static void promise40BuildableAfter() {
        OrderAssembler x = Check.loaded(Check.FURNITURE);
        Check.due("buildableAfter 0", x.buildableAfter(Check.STOOL, Check.TABLE, 0), 13);
        Check.due("buildableAfter 9 tables", x.buildableAfter(Check.STOOL, Check.TABLE, 9), 1);
        Check.due("buildableAfter 10 tables", x.buildableAfter(Check.STOOL, Check.TABLE, 10), OrderAssembler.NONE);
        Check.due("buildableAfter 999 tables", x.buildableAfter(Check.STOOL, Check.TABLE, 999), OrderAssembler.NONE);
        Check.due("buildableAfter 4 stools", x.buildableAfter(Check.TABLE, Check.STOOL, 4), 7);
        x.reserve(0, 3);
        Check.due("buildableAfter from the free quantity", x.buildableAfter(Check.STOOL, Check.TABLE, 6), 1);
        Check.badArgument("buildableAfter the same", () -> x.buildableAfter(0, 0, 1));
        Check.badArgument("buildableAfter -1", () -> x.buildableAfter(0, 1, -1));
        Check.badArgument("buildableAfter 1000", () -> x.buildableAfter(0, 1, 1000));
        Check.outside("buildableAfter of no product", () -> x.buildableAfter(3, 3, -1));
        Check.outside("buildableAfter no other", () -> x.buildableAfter(0, -1, 1));
        Check.outside("buildableAfter with a right other", () -> x.buildableAfter(3, 0, 1));
    }

    private static void covered(String text, int set) {
        Check.due("coveredOrders() of " + text, Check.loaded(text).coveredOrders(), set);
    }

    private static void promise41CoveredOrders() {
        String ten = "part a 10 1;product p 1 a;rung 0 0 1;";
        covered(ten, 0);
        covered(ten + "order p 6 5 3;order p 6 5 2;order p 4 5 4;", 6);
        covered(ten + "order p 6 5 2;order p 6 6 2;", 2);
        covered(ten + "order p 6 5 2;order p 6 5 2;", 1);
        covered(ten + "order p 9 5 2;order p 1 5 2;", 3);
        covered(ten + "order p 11 5 1;order p 10 5 2 whole;order p 1 5 3;", 2);
        OrderAssembler x = Check.loaded(ten + "order p 6 5 2;order p 7 5 2;");
        x.reserve(0, 6);
        Check.due("coveredOrders() from the free quantity", x.coveredOrders(), 0);
        x.reserve(1, 3);
        Check.due("coveredOrders() with no free quantity", x.coveredOrders(), 0);
        x.release(0, 4);
        Check.due("coveredOrders() of open units", x.coveredOrders(), 1);
        x.cancel(0);
        Check.due("coveredOrders() without the cancelled one", x.coveredOrders(), 2);
    }

    private static void promise42PromiseOfAll() {
        OrderAssembler x = Check.loaded(Check.FURNITURE);
        Check.due("promiseOfAll() from the stock", x.promiseOfAll(), 0);
        x.adjust(Check.LEG, 35);
        Check.due("promiseOfAll() for 36 legs", x.promiseOfAll(), 5);
        Check.due("no order alone is late", x.promiseOf(0) + x.promiseOf(1) + x.promiseOf(2), 0);
        x.buy(Check.LEG, 1);
        x.advance(2);
        Check.due("promiseOfAll() with an arrival", x.promiseOfAll(), 5);
        x.adjust(Check.LEG, 34);
        Check.due("promiseOfAll() with too small an arrival", x.promiseOfAll(), 7);
        x.cancel(0);
        x.cancel(1);
        x.adjust(Check.TOP, 0);
        Check.due("promiseOfAll() does not count other parts", x.promiseOfAll(), 2);
        x.cancel(2);
        x.adjust(Check.LEG, 0);
        Check.due("promiseOfAll() of none", x.promiseOfAll(), 2);
        Check.due("promiseOfAll() of one piece",
            Check.loaded("part a 0 7;product p 1 a;order p 1 1 1;").promiseOfAll(), 7);
    }

    private static void nothingChanges() {
        OrderAssembler x = Check.loaded(Check.FURNITURE);
        x.reserve(0, 1);
        String before = Check.all(x);
        x.promise(0, 5);
        x.promiseOf(0);
        x.delayingPart(0);
        x.lateOrders();
        x.wouldGet(0);
        x.rungOf(0);
        x.rungUnits(0);
        x.missingPieces(0);
        x.buildableAfter(0, 1, 1);
        x.coveredOrders();
        x.promiseOfAll();
        x.buildableTogether(0, 1);
        Check.due("the state after the trials", Check.all(x), before);
    }
}
