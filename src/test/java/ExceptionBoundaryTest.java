import java.util.ArrayList;
import java.util.List;

/** The boundary cases of exceptions, for every call that can throw: a method for each sentence. */
public final class ExceptionBoundaryTest {
    private static final Class<?> INDEX = IndexOutOfBoundsException.class;
    private static final Class<?> ARGUMENT = IllegalArgumentException.class;
    private static final Class<?> STATE = IllegalStateException.class;

    private ExceptionBoundaryTest() { }

    public static void main(String[] args) {
        Check.run(ExceptionBoundaryTest::parts);
        Check.run(ExceptionBoundaryTest::products);
        Check.run(ExceptionBoundaryTest::others);
        Check.run(ExceptionBoundaryTest::orders);
        Check.run(ExceptionBoundaryTest::rungs);
        Check.run(ExceptionBoundaryTest::lastOnesExist);
        Check.run(ExceptionBoundaryTest::indexBeforeAll);
        Check.run(ExceptionBoundaryTest::argumentBeforeState);
        Check.run(ExceptionBoundaryTest::throwingChangesNothing);
        Check.run(ExceptionBoundaryTest::loadEmptiesTheBuffer);
        Check.end();
    }

    /** A call with one number that must be that of an existing thing. */
    private interface Indexed {
        long answer(OrderAssembler x, int index);
    }

    private static final List<Indexed> OF_PARTS = List.of((x, k) -> x.need(0, k), OrderAssembler::usedBy,
        OrderAssembler::stock, OrderAssembler::reserved, OrderAssembler::arriving, OrderAssembler::nextArrival,
        (x, k) -> x.missing(0, k), OrderAssembler::toBuy, (x, k) -> x.buy(k, 1), (x, k) -> x.adjust(k, 1));
    private static final List<Indexed> OF_PRODUCTS = List.of(OrderAssembler::lineCount, (x, k) -> x.lineItem(k, 0),
        (x, k) -> x.lineQuantity(k, 0), (x, k) -> x.need(k, 0), OrderAssembler::level, OrderAssembler::pieces,
        (x, k) -> x.commonParts(k, 0), OrderAssembler::buildable, OrderAssembler::bottleneck,
        (x, k) -> x.buildableTogether(k, k == 0 ? 1 : 0), (x, k) -> x.promise(k, 1),
        (x, k) -> x.buildableAfter(k, k == 0 ? 1 : 0, 0), (x, k) -> x.addOrder(k, 1, 1, 1, false),
        OrderAssembler::formatNeeds);
    private static final List<Indexed> OF_OTHERS = List.of((x, k) -> x.commonParts(0, k),
        (x, k) -> x.buildableTogether(k == 0 ? 1 : 0, k), (x, k) -> x.buildableAfter(k == 0 ? 1 : 0, k, 0));
    private static final List<Indexed> OF_ORDERS = List.of(OrderAssembler::stateOf, OrderAssembler::openUnits,
        OrderAssembler::reservedUnits, OrderAssembler::shippedUnits, (x, k) -> x.orderField(k, 0),
        (x, k) -> x.missing(k, 0), OrderAssembler::promiseOf, OrderAssembler::delayingPart, OrderAssembler::wouldGet,
        OrderAssembler::rungOf, OrderAssembler::missingPieces, OrderAssembler::cancel, (x, k) -> x.reserve(k, 1),
        (x, k) -> x.release(k, 1), OrderAssembler::ship, OrderAssembler::formatOrder);
    private static final List<Indexed> OF_RUNGS = List.of(OrderAssembler::rungUnits);

    /** Some objects: a new one, a small one, and one with as much as there can be. */
    private static List<OrderAssembler> objects() {
        List<OrderAssembler> objects = new ArrayList<>();
        objects.add(new OrderAssembler());
        objects.add(Check.loaded(Texts.SMALL + "product q 1 b;rung 0 9 50;rung 0 9 100;order p 1 1 1;"));
        objects.add(Check.loaded(Texts.full()));
        return objects;
    }

    private static void outside(String what, int counted, List<Indexed> calls) {
        Check.says("IndexOutOfBoundsException is thrown if a parameter named part, product, other, order or rung is not "
            + "the number of an existing one.");
        for (OrderAssembler x : objects()) {
            int count = x.count(counted);
            for (int call = 0; call < calls.size(); call++) {
                Indexed each = calls.get(call);
                for (int index : new int[] {-1, count, count + 1, 20, 100, Integer.MIN_VALUE, Integer.MAX_VALUE}) {
                    String told = "call " + call + " of " + what + " " + index + " of " + count;
                    Check.refused(x, told, INDEX, () -> each.answer(x, index));
                }
            }
        }
    }

    private static void parts() {
        outside("part", 0, OF_PARTS);
    }

    private static void products() {
        outside("product", 1, OF_PRODUCTS);
    }

    private static void others() {
        outside("other", 1, OF_OTHERS);
    }

    private static void orders() {
        outside("order", 2, OF_ORDERS);
    }

    private static void rungs() {
        outside("rung", 3, OF_RUNGS);
    }

    private static boolean exists(OrderAssembler x, Indexed call, int index) {
        try {
            call.answer(x, index);
        } catch (IndexOutOfBoundsException outside) {
            return false;
        } catch (IllegalStateException now) {
            // Not possible now, but the number is that of an existing one, and no more is asked here.
            return true;
        }
        return true;
    }

    private static void answers(String what, OrderAssembler x, int counted, List<Indexed> calls) {
        for (int call = 0; call < calls.size(); call++) {
            for (int index : new int[] {0, x.count(counted) - 1}) {
                Check.yes("call " + call + " of " + what + " " + index, exists(x, calls.get(call), index));
            }
        }
    }

    private static void lastOnesExist() {
        Check.says("is not the number of an existing one (the first and the last are)");
        for (int k = 1; k < 3; k++) {
            answers("part", objects().get(k), 0, OF_PARTS);
            answers("product", objects().get(k), 1, OF_PRODUCTS);
            answers("other", objects().get(k), 1, OF_OTHERS);
            answers("order", objects().get(k), 2, OF_ORDERS);
            answers("rung", objects().get(k), 3, OF_RUNGS);
        }
        answers("rung", objects().get(0), 3, OF_RUNGS);
    }

    private static void indexBeforeAll() {
        Check.says("When several exceptions apply, the one that is listed first in the method's documentation or throws "
            + "clause is thrown.");
        OrderAssembler x = Check.loaded(Texts.full());
        for (int time = 0; time < 20; time++) {
            x.buy(0, 1);
        }
        Check.refused(x, "buildableTogether(8, 8)", INDEX, () -> x.buildableTogether(8, 8));
        Check.refused(x, "buildableTogether(-1, -1)", INDEX, () -> x.buildableTogether(-1, -1));
        Check.refused(x, "promise(8, 0)", INDEX, () -> x.promise(8, 0));
        Check.refused(x, "promise(-1, 1000)", INDEX, () -> x.promise(-1, 1000));
        Check.refused(x, "buildableAfter(8, 8, 0)", INDEX, () -> x.buildableAfter(8, 8, 0));
        Check.refused(x, "buildableAfter(0, 8, -1)", INDEX, () -> x.buildableAfter(0, 8, -1));
        Check.refused(x, "buildableAfter(8, 0, 1000)", INDEX, () -> x.buildableAfter(8, 0, 1000));
        Check.refused(x, "addOrder with wrong units", INDEX, () -> x.addOrder(8, 0, 1, 1, false));
        Check.refused(x, "addOrder with a wrong class", INDEX, () -> x.addOrder(8, 1, 10, 1, false));
        Check.refused(x, "addOrder with a wrong day", INDEX, () -> x.addOrder(-1, 1, 1, 1000, false));
        Check.refused(x, "addOrder of a 21st", INDEX, () -> x.addOrder(8, 1, 1, 1, false));
        Check.refused(x, "reserve(20, 0)", INDEX, () -> x.reserve(20, 0));
        Check.refused(x, "reserve(-1, 99)", INDEX, () -> x.reserve(-1, 99));
        Check.refused(x, "release(20, 0)", INDEX, () -> x.release(20, 0));
        Check.refused(x, "release(-1, 99)", INDEX, () -> x.release(-1, 99));
        Check.refused(x, "buy(12, 0)", INDEX, () -> x.buy(12, 0));
        Check.refused(x, "buy of a 21st", INDEX, () -> x.buy(12, 1));
        Check.refused(x, "adjust(12, -1)", INDEX, () -> x.adjust(12, -1));
        Check.refused(x, "adjust(-1, 10000)", INDEX, () -> x.adjust(-1, 10000));
        Check.refused(x, "lineItem(8, -1)", INDEX, () -> x.lineItem(8, -1));
        Check.refused(x, "lineQuantity(8, 6)", INDEX, () -> x.lineQuantity(8, 6));
        Check.refused(x, "orderField(20, 5)", INDEX, () -> x.orderField(20, 5));
        Check.refused(x, "need(8, 12)", INDEX, () -> x.need(8, 12));
        Check.refused(x, "missing(20, 12)", INDEX, () -> x.missing(20, 12));
        Check.refused(x, "commonParts(8, 8)", INDEX, () -> x.commonParts(8, 8));
    }

    private static void argumentBeforeState() {
        Check.says("When several exceptions apply, the one that is listed first in the method's documentation or throws "
            + "clause is thrown.");
        OrderAssembler x = Check.loaded("part a 1 1;product p 1 a;" + "order p 9 1 1 whole;".repeat(20));
        for (int time = 0; time < 20; time++) {
            x.buy(0, 1);
        }
        x.cancel(3);
        Check.refused(x, "addOrder of a 21st with wrong units", ARGUMENT, () -> x.addOrder(0, 0, 1, 1, false));
        Check.refused(x, "addOrder of a 21st with too many units", ARGUMENT, () -> x.addOrder(0, 100, 1, 1, false));
        Check.refused(x, "addOrder of a 21st with a wrong class", ARGUMENT, () -> x.addOrder(0, 1, 10, 1, false));
        Check.refused(x, "addOrder of a 21st with a wrong day", ARGUMENT, () -> x.addOrder(0, 1, 1, 1000, false));
        Check.refused(x, "reserve 0 of a whole order", ARGUMENT, () -> x.reserve(0, 0));
        Check.refused(x, "reserve -1 of a cancelled order", ARGUMENT, () -> x.reserve(3, -1));
        Check.refused(x, "release 0 of none reserved", ARGUMENT, () -> x.release(0, 0));
        Check.refused(x, "release -1 of a cancelled order", ARGUMENT, () -> x.release(3, -1));
        Check.refused(x, "buy 0 of a 21st", ARGUMENT, () -> x.buy(0, 0));
        Check.refused(x, "buy 1000 of a 21st", ARGUMENT, () -> x.buy(0, 1000));
    }

    private static void throwingChangesNothing() {
        Check.says("A call that throws changes nothing");
        OrderAssembler x = Check.loaded(Check.FURNITURE);
        x.allocate();
        x.ship(0);
        x.buy(0, 5);
        x.advance(1);
        x.release(1, 1);
        x.formatNeeds(1);
        x.append(1, 2, 3, 4, 5);
        x.truncate(7);
        Check.refused(x, "cancel of a done order", STATE, () -> x.cancel(0));
        Check.refused(x, "reserve of a done order", STATE, () -> x.reserve(0, 1));
        Check.refused(x, "reserve too much", STATE, () -> x.reserve(1, 2));
        Check.refused(x, "release of a done order", STATE, () -> x.release(0, 1));
        Check.refused(x, "release too much", STATE, () -> x.release(1, 6));
        Check.refused(x, "ship of a done order", STATE, () -> x.ship(0));
        Check.refused(x, "buy too little", ARGUMENT, () -> x.buy(0, 0));
        Check.refused(x, "adjust to too much", ARGUMENT, () -> x.adjust(0, 10000));
        Check.refused(x, "advance too far", ARGUMENT, () -> x.advance(101));
        Check.refused(x, "promise too much", ARGUMENT, () -> x.promise(0, 1000));
        Check.refused(x, "addOrder of too many units", ARGUMENT, () -> x.addOrder(0, 100, 1, 1, true));
        Check.due("undo() after all this", x.undo(), 4);
        Check.due("the unit is reserved again", x.reservedUnits(1), 6);
    }

    private static void loadEmptiesTheBuffer() {
        Check.says("except that load empties the buffer and sets the error");
        OrderAssembler x = Check.loaded(Check.FURNITURE);
        x.allocate();
        x.advance(12);
        x.ship(0);
        x.buy(1, 9);
        x.formatOrder(2);
        String before = Check.all(x) + Check.formatted(x);
        Check.enter(x, "part a 1 1;rung 0 9 101;");
        Check.badArgument("load", x::load);
        Check.due("the buffer", Check.bufferLength(x), 0);
        Check.due("the offset", x.errorOffset(), 20);
        Check.due("the kind", x.errorKind(), OrderAssembler.BAD_NUMBER);
        Check.due("all else", Check.all(x) + Check.formatted(x), before);
    }
}
