/** Promises 24 to 31: orders and what they lack. */
public final class OrdersTest {
    private OrdersTest() { }

    public static void main(String[] args) {
        promises24To27StateAndUnits();
        promise28OrderField();
        promise29Missing();
        promises30And31ToBuy();
        Check.end();
    }

    private static void units(OrderAssembler x, String when, int order, int... due) {
        Check.due("stateOf " + when, x.stateOf(order), due[0]);
        Check.due("openUnits " + when, x.openUnits(order), due[1]);
        Check.due("reservedUnits " + when, x.reservedUnits(order), due[2]);
        Check.due("shippedUnits " + when, x.shippedUnits(order), due[3]);
    }

    private static void promises24To27StateAndUnits() {
        OrderAssembler x = Check.loaded(Check.FURNITURE);
        units(x, "at first", 1, OrderAssembler.OPEN, 6, 0, 0);
        x.reserve(1, 4);
        units(x, "with 4 reserved", 1, OrderAssembler.OPEN, 2, 4, 0);
        x.ship(1);
        units(x, "with 4 shipped", 1, OrderAssembler.OPEN, 2, 0, 4);
        x.reserve(1, 2);
        units(x, "with the rest reserved", 1, OrderAssembler.RESERVED, 0, 2, 4);
        x.ship(1);
        units(x, "with all shipped", 1, OrderAssembler.DONE, 0, 0, 6);
        x.reserve(0, 1);
        x.ship(0);
        x.reserve(0, 1);
        x.cancel(0);
        units(x, "cancelled", 0, OrderAssembler.CANCELLED, 0, 0, 1);
        x.addOrder(0, 1, 1, 1, false);
        x.reserve(3, 1);
        units(x, "of a single reserved unit", 3, OrderAssembler.RESERVED, 0, 1, 0);
        x.undo();
        x.undo();
        x.reserve(2, 2);
        units(x, "of a whole order", 2, OrderAssembler.RESERVED, 0, 2, 0);
        x.cancel(2);
        units(x, "of a cancelled whole order", 2, OrderAssembler.CANCELLED, 0, 0, 0);
        for (int order : new int[] {-1, 3, 20, Integer.MAX_VALUE}) {
            Check.outside("stateOf(" + order + ")", () -> x.stateOf(order));
            Check.outside("openUnits(" + order + ")", () -> x.openUnits(order));
            Check.outside("reservedUnits(" + order + ")", () -> x.reservedUnits(order));
            Check.outside("shippedUnits(" + order + ")", () -> x.shippedUnits(order));
        }
    }

    private static void promise28OrderField() {
        OrderAssembler x = Check.loaded(Check.FURNITURE);
        int[][] fields = {{1, 3, 7, 10, 0}, {2, 6, 2, 5, 0}, {2, 2, 9, 12, 1}};
        for (int order = 0; order < 3; order++) {
            for (int what = 0; what < 5; what++) {
                Check.due("orderField(" + order + ", " + what + ")", x.orderField(order, what), fields[order][what]);
            }
        }
        x.reserve(1, 1);
        x.ship(1);
        Check.due("the quantity stays", x.orderField(1, 1), 6);
        Check.due("orderField(0, 5)", x.orderField(0, 5), OrderAssembler.NONE);
        Check.due("orderField(0, -1)", x.orderField(0, -1), OrderAssembler.NONE);
        Check.outside("orderField(3, 0)", () -> x.orderField(3, 0));
        Check.outside("orderField(-1, 9)", () -> x.orderField(-1, 9));
    }

    private static void promise29Missing() {
        OrderAssembler x = Check.loaded(Check.FURNITURE);
        Check.due("missing nothing", x.missing(1, Check.LEG), 0);
        x.adjust(Check.LEG, 10);
        Check.due("missing legs", x.missing(1, Check.LEG), 8);
        Check.due("missing a part that it does not need", x.missing(1, Check.TOP), 0);
        x.buy(Check.LEG, 100);
        Check.due("arrivals do not count", x.missing(1, Check.LEG), 8);
        x.reserve(1, 2);
        Check.due("missing for the open units", x.missing(1, Check.LEG), 8);
        Check.due("missing after another's reservation", x.missing(0, Check.LEG), 8);
        x.cancel(0);
        Check.due("missing of a cancelled order", x.missing(0, Check.LEG), 0);
        Check.outside("missing(3, 0)", () -> x.missing(3, 0));
        Check.outside("missing(0, 3)", () -> x.missing(0, 3));
        Check.outside("missing(0, -1)", () -> x.missing(0, -1));
    }

    private static void promises30And31ToBuy() {
        OrderAssembler x = Check.loaded(Check.FURNITURE);
        Check.due("toBuy at first", x.toBuy(Check.LEG), 0);
        Check.due("scarcestPart at first", x.scarcestPart(), OrderAssembler.NONE);
        x.adjust(Check.LEG, 20);
        Check.due("toBuy(LEG)", x.toBuy(Check.LEG), 12 + 18 + 6 - 20);
        x.buy(Check.LEG, 9);
        Check.due("toBuy(LEG) with an arrival", x.toBuy(Check.LEG), 7);
        x.adjust(Check.BOLT, 33);
        Check.due("toBuy(BOLT)", x.toBuy(Check.BOLT), 24 + 12 + 4 - 33);
        Check.due("scarcestPart of equal ones", x.scarcestPart(), Check.LEG);
        x.adjust(Check.BOLT, 32);
        Check.due("scarcestPart", x.scarcestPart(), Check.BOLT);
        x.reserve(1, 3);
        Check.due("toBuy does not change by a reservation", x.toBuy(Check.LEG), 7);
        x.cancel(1);
        Check.due("toBuy without the cancelled order", x.toBuy(Check.LEG), 0);
        x.buy(Check.BOLT, 999);
        Check.due("toBuy of one piece, and scarcestPart",
            Check.loaded("part a 0 7;part b 0 7;product p 1 b;order p 1 1 1;").scarcestPart(), 1);
        Check.due("toBuy with more arriving than needed", x.toBuy(Check.BOLT), 0);
        Check.due("scarcestPart when all is bought", x.scarcestPart(), OrderAssembler.NONE);
        Check.outside("toBuy(3)", () -> x.toBuy(3));
        Check.outside("toBuy(-1)", () -> x.toBuy(-1));
    }
}
