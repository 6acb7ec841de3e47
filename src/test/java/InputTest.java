/** Promises 1 to 6: a new object, the buffer, loading, and the errors in a text. */
public final class InputTest {
    private InputTest() { }

    public static void main(String[] args) {
        promise1NewObject();
        promise2Append();
        promise3Truncate();
        promise4Load();
        promise4LoadReplacesEverything();
        promise4WrongTextChangesNothing();
        grammar();
        syntaxErrors();
        numberErrors();
        nameErrors();
        tooManyErrors();
        tooMuchErrors();
        promises5And6LatestLoad();
        Check.end();
    }

    private static void promise1NewObject() {
        OrderAssembler x = new OrderAssembler();
        int[] counts = {0, 0, 0, 1, 0};
        for (int what = 0; what < 5; what++) {
            Check.due("count(" + what + ") of a new object", x.count(what), counts[what]);
            Check.due("total(" + what + ") of a new object", x.total(what), 0);
        }
        Check.due("day() of a new object", x.day(), 0);
        Check.due("undoDepth() of a new object", x.undoDepth(), 0);
        Check.due("undo() of a new object", x.undo(), OrderAssembler.NONE);
        Check.due("errorOffset() of a new object", x.errorOffset(), OrderAssembler.NONE);
        Check.due("errorKind() of a new object", x.errorKind(), 0);
        Check.due("formattedByte(0) of a new object", x.formattedByte(0), OrderAssembler.NONE);
        Check.due("shipment(0, 0) of a new object", x.shipment(0, 0), OrderAssembler.NONE);
        Check.due("rungUnits(0) of a new object", x.rungUnits(0), 0);
        Check.due("promiseOfAll() of a new object", x.promiseOfAll(), 0);
        Check.due("coveredOrders() of a new object", x.coveredOrders(), 0);
        Check.outside("rungUnits(1) of a new object", () -> x.rungUnits(1));
        Check.outside("stock(0) of a new object", () -> x.stock(0));
        Check.outside("lineCount(0) of a new object", () -> x.lineCount(0));
        Check.outside("stateOf(0) of a new object", () -> x.stateOf(0));
        Check.due("truncate(1) of an empty buffer", x.truncate(1) ? 1 : 0, 0);
        Check.due("load() of an empty buffer", x.load(), 0);
    }

    private static void promise2Append() {
        OrderAssembler x = new OrderAssembler();
        for (int k = 1; k <= 45; k++) {
            Check.due("append " + k, x.append(0x20202020, 0x20202020, 0x20202020, 0x20202020, 0x20202020), 20 * k);
        }
        Check.due("append beyond 900 bytes", x.append(0x3b3b3b3b, 0, 0, 0, 0), OrderAssembler.NONE);
        Check.due("truncate(881)", x.truncate(881) ? 1 : 0, 1);
        Check.due("append to 881 bytes", x.append(0x3b3b3b3b, 0, 0, 0, 0), OrderAssembler.NONE);
        Check.due("load of 881 spaces", x.load(), 0);
        Check.due("append after load", x.append(0x70617274, 0x20616263, 0x64656667, 0x20312032, 0x3b202020), 20);
        Check.due("load of the bytes", x.load(), 0);
        Check.due("the stock from the bytes", x.stock(0), 1);
        x.append(0, 0, 0, 0, 0);
        x.truncate(0);
        Check.due("append after truncate(0)", x.append(0xff000000, 0, 0, 0, 0), 20);
        Check.badArgument("load of bytes that are no text", x::load);
        Check.due("the offset of byte 255", x.errorOffset(), 0);
    }

    private static void promise3Truncate() {
        OrderAssembler x = new OrderAssembler();
        Check.due("truncate(0) of an empty buffer", x.truncate(0) ? 1 : 0, 1);
        Check.due("truncate(-1)", x.truncate(-1) ? 1 : 0, 0);
        x.append(0x20202020, 0x20202020, 0x20202020, 0x20202020, 0x20203b3b);
        Check.due("truncate(21) of 20 bytes", x.truncate(21) ? 1 : 0, 0);
        Check.due("truncate(20) of 20 bytes", x.truncate(20) ? 1 : 0, 1);
        Check.due("truncate of the least int", x.truncate(Integer.MIN_VALUE) ? 1 : 0, 0);
        Check.due("truncate of the greatest int", x.truncate(Integer.MAX_VALUE) ? 1 : 0, 0);
        Check.due("truncate(18)", x.truncate(18) ? 1 : 0, 1);
        Check.due("truncate(19) of 18 bytes", x.truncate(19) ? 1 : 0, 0);
        Check.due("append to 18 bytes", x.append(0x20202020, 0, 0, 0, 0), 38);
        Check.due("truncate(22)", x.truncate(22) ? 1 : 0, 1);
        Check.due("load of what is left", x.load(), 0);
    }

    private static void promise4Load() {
        OrderAssembler x = new OrderAssembler();
        Check.enter(x, Check.FURNITURE);
        Check.due("load()", x.load(), 3);
        Check.due("the stock", x.stock(Check.BOLT), 100);
        Check.due("the rungs", x.count(3), 2);
        Check.due("the due day", x.orderField(2, 3), 12);
        Check.due("whole", x.orderField(2, 4), 1);
        Check.due("not whole", x.orderField(1, 4), 0);
        Check.due("the lead time", x.buy(Check.TOP, 1), 8);
        Check.due("the buffer is empty", x.truncate(1) ? 1 : 0, 0);
        Check.due("an empty text", x.load(), 0);
        Check.due("parts of an empty text", x.count(0), 0);
        Check.due("rungs of an empty text", x.count(3), 1);
        Check.due("a text of white space", Check.loaded(" \t\n ").count(0), 0);
    }

    private static void promise4LoadReplacesEverything() {
        OrderAssembler x = Check.loaded(Check.FURNITURE);
        x.formatNeeds(Check.KIT);
        x.allocate();
        x.advance(20);
        x.ship(0);
        x.buy(0, 9);
        x.addOrder(0, 1, 1, 1, false);
        x.cancel(1);
        Check.enter(x, Check.FURNITURE);
        Check.due("the second load()", x.load(), 3);
        Check.due("the state after the second load", Check.all(x), Check.all(Check.loaded(Check.FURNITURE)));
        Check.due("undo after load", x.undo(), OrderAssembler.NONE);
        Check.due("the formatted text stays", Check.formatted(x), "kit: 2leg 4bolt");
        Check.enter(x, "part a 1 1;product p 1 a;");
        Check.due("load of a smaller text", x.load(), 1);
        Check.due("one rung again", x.count(3), 1);
        Check.due("no orders", x.count(2), 0);
        Check.due("a new bill", x.need(0, 0), 1);
        Check.due("one line", x.lineCount(0), 1);
        Check.due("level 1", x.level(0), 1);
        for (int time = 1; time <= 3; time++) {
            x.allocate();
            x.buy(0, 9);
            x.advance(1 + time);
            x.buy(0, 9);
            Check.enter(x, time == 2 ? "part a 1 1;product p 1 a;product table 1 a;" : Check.FURNITURE);
            x.load();
            String due = Check.all(Check.loaded(time == 2 ? "part a 1 1;product p 1 a;product table 1 a;" : Check.FURNITURE));
            Check.due("the state after load number " + time, Check.all(x), due);
            if (time != 2) {
                x.allocate();
                x.ship(1);
                x.cancel(0);
            }
        }
    }

    private static void promise4WrongTextChangesNothing() {
        OrderAssembler x = Check.loaded(Check.FURNITURE);
        x.allocate();
        x.ship(2);
        x.buy(1, 7);
        x.formatOrder(0);
        String before = Check.all(x) + Check.formatted(x);
        Check.enter(x, "part a 1 1;product p 1 a;rung 0 0 1;order p 1 1 1;part");
        Check.badArgument("load of a wrong text", x::load);
        Check.due("the state after a wrong text", Check.all(x) + Check.formatted(x), before);
        Check.due("the buffer after a wrong text", x.truncate(1) ? 1 : 0, 0);
        Check.due("undo after a wrong text", x.undo(), 2);
    }

    private static void grammar() {
        Texts.right("", 0);
        Texts.right("\n\t part\ta\n1 1 ; part b 1 1;\n", 0);
        Texts.right("part a1 1;product p1a;order p1 1 1whole;", 1);
        Texts.right("part a 0000 0001;part b 9999 60;product p 20 a 0001 b;", 1);
        Texts.right("part part 1 1;product product 1 part;product rung 1 product;order rung 1 1 1;"
            + "product order 1 rung;order order 1 1 1 whole;product whole 1 part;order whole 1 1 1 whole;", 4);
        Texts.right("part azaz 1 1;product zz 1 azaz;product az 1 zz;", 2);
        Texts.right("part abcdefgh 1 1;product abcdefgi 1 abcdefgh;", 1);
        Texts.right("rung 0 0 1;rung 9 9 100;rung 0 9 50;rung 5 5 5;rung 0 9 1;rung 3 4 99;", 0);
        Texts.right(Texts.SMALL + "order p 1 0 0;order p 99 9 999 whole;", 1);
        Texts.right("order p 1 0 0;".repeat(20).replaceFirst("", Texts.SMALL), 1);
        Texts.right("part a 1 1;part b 1 1;part c 1 1;part d 1 1;part e 1 1;part f 1 1;product p 1 a 2 b 3 c 4 d 5 e 6 f;", 1);
    }

    private static void syntaxErrors() {
        Texts.errorAt("^;", OrderAssembler.SYNTAX);
        Texts.errorAt("^parts a 1 1;", OrderAssembler.SYNTAX);
        Texts.errorAt("^par", OrderAssembler.SYNTAX);
        Texts.errorAt("^xart a 1 1;", OrderAssembler.SYNTAX);
        Texts.errorAt("part a 1 1^,", OrderAssembler.SYNTAX);
        Texts.errorAt("part a 1 1;^{", OrderAssembler.SYNTAX);
        Texts.errorAt("part a^` 1 1;", OrderAssembler.SYNTAX);
        Texts.errorAt("part a ^/ 1;", OrderAssembler.SYNTAX);
        Texts.errorAt("part a 1^: 1;", OrderAssembler.SYNTAX);
        Texts.errorAt("^whole;", OrderAssembler.SYNTAX);
        Texts.errorAt(" ^1", OrderAssembler.SYNTAX);
        Texts.errorAt("^Part a 1 1;", OrderAssembler.SYNTAX);
        Texts.errorAt("part^", OrderAssembler.SYNTAX);
        Texts.errorAt("part ^", OrderAssembler.SYNTAX);
        Texts.errorAt("part ^1 1 1;", OrderAssembler.SYNTAX);
        Texts.errorAt("part ^abcdefghi 1 1;", OrderAssembler.SYNTAX);
        Texts.errorAt("part a^B 1 1;", OrderAssembler.SYNTAX);
        Texts.errorAt("part a ^b 1;", OrderAssembler.SYNTAX);
        Texts.errorAt("part a 1 ^;", OrderAssembler.SYNTAX);
        Texts.errorAt("part a 1 1^", OrderAssembler.SYNTAX);
        Texts.errorAt("part a 1 1 \n^", OrderAssembler.SYNTAX);
        Texts.errorAt("part a 1 1 ^1;", OrderAssembler.SYNTAX);
        Texts.errorAt("part a 1^-1 1;", OrderAssembler.SYNTAX);
        Texts.errorAt("part a 1 1;^;", OrderAssembler.SYNTAX);
        Texts.errorAt("part a 1 1;^\r", OrderAssembler.SYNTAX);
        Texts.errorAt("part a 1 1;product p^;", OrderAssembler.SYNTAX);
        Texts.errorAt("part a 1 1;product p ^a;", OrderAssembler.SYNTAX);
        Texts.errorAt("part a 1 1;product p 1 ^;", OrderAssembler.SYNTAX);
        Texts.errorAt("part a 1 1;product p 1 ^1;", OrderAssembler.SYNTAX);
        Texts.errorAt("part a 1 1;product p 1 ^abcdefghi;", OrderAssembler.SYNTAX);
        Texts.errorAt("part a 1 1;product p 1 a ^a;", OrderAssembler.SYNTAX);
        Texts.errorAt("part a 1 1;product p 1 a 1^", OrderAssembler.SYNTAX);
        Texts.errorAt("rung ^a 1 1;", OrderAssembler.SYNTAX);
        Texts.errorAt("rung 1 1 1 ^1;", OrderAssembler.SYNTAX);
        Texts.errorAt(Texts.SMALL + "order ^1 1 1;", OrderAssembler.SYNTAX);
        Texts.errorAt(Texts.SMALL + "order ^ppppppppp 1 1 1;", OrderAssembler.SYNTAX);
        Texts.errorAt(Texts.SMALL + "order p 1 1 ^whole;", OrderAssembler.SYNTAX);
        Texts.errorAt(Texts.SMALL + "order p 1 1 1 ^who;", OrderAssembler.SYNTAX);
        Texts.errorAt(Texts.SMALL + "order p 1 1 1 ^wholes;", OrderAssembler.SYNTAX);
        Texts.errorAt(Texts.SMALL + "order p 1 1 1 whole ^whole;", OrderAssembler.SYNTAX);
        Texts.errorAt(Texts.SMALL + "order p 1 1 1 ^1;", OrderAssembler.SYNTAX);
        Texts.error("part a 1 1;" + (char) 225, 11, OrderAssembler.SYNTAX);
        Texts.error("part a 1 1;" + (char) 0, 11, OrderAssembler.SYNTAX);
    }

    private static void numberErrors() {
        Texts.errorAt("part a ^10000 1;", OrderAssembler.BAD_NUMBER);
        Texts.errorAt("part a ^00000 1;", OrderAssembler.BAD_NUMBER);
        Texts.errorAt("part a ^99999999999999999999 1;", OrderAssembler.BAD_NUMBER);
        Texts.errorAt("part a 1 ^0;", OrderAssembler.BAD_NUMBER);
        Texts.errorAt("part a 1 ^61;", OrderAssembler.BAD_NUMBER);
        Texts.errorAt("part a 1 ^00001;", OrderAssembler.BAD_NUMBER);
        Texts.errorAt("part a 1 1;product p ^0 a;", OrderAssembler.BAD_NUMBER);
        Texts.errorAt("part a 1 1;product p ^21 a;", OrderAssembler.BAD_NUMBER);
        Texts.errorAt("part a 1 1;product p 1 a ^21 a;", OrderAssembler.BAD_NUMBER);
        Texts.errorAt("rung ^10 10 1;", OrderAssembler.BAD_NUMBER);
        Texts.errorAt("rung 0 ^10 1;", OrderAssembler.BAD_NUMBER);
        Texts.errorAt("rung 5 ^4 1;", OrderAssembler.BAD_NUMBER);
        Texts.errorAt("rung 0 9 ^0;", OrderAssembler.BAD_NUMBER);
        Texts.errorAt("rung 0 9 ^101;", OrderAssembler.BAD_NUMBER);
        Texts.errorAt(Texts.SMALL + "order p ^0 1 1;", OrderAssembler.BAD_NUMBER);
        Texts.errorAt(Texts.SMALL + "order p ^100 1 1;", OrderAssembler.BAD_NUMBER);
        Texts.errorAt(Texts.SMALL + "order p 1 ^10 1;", OrderAssembler.BAD_NUMBER);
        Texts.errorAt(Texts.SMALL + "order p 1 1 ^1000;", OrderAssembler.BAD_NUMBER);
        Texts.errorAt(Texts.SMALL + "order p 1 1 ^1000whole", OrderAssembler.BAD_NUMBER);
    }

    private static void nameErrors() {
        Texts.errorAt("part a 1 1;part ^a 1 1;", OrderAssembler.BAD_NAME);
        Texts.errorAt(Texts.SMALL + "part ^p 1 1;", OrderAssembler.BAD_NAME);
        Texts.errorAt(Texts.SMALL + "product ^a 1 b;", OrderAssembler.BAD_NAME);
        Texts.errorAt(Texts.SMALL + "product ^p 1 b;", OrderAssembler.BAD_NAME);
        Texts.errorAt(Texts.SMALL + "product q 1 ^q;", OrderAssembler.BAD_NAME);
        Texts.errorAt(Texts.SMALL + "product q 1 ^c;", OrderAssembler.BAD_NAME);
        Texts.errorAt(Texts.SMALL + "product q 1 ^aa;", OrderAssembler.BAD_NAME);
        Texts.errorAt("part ab 1 1;product q 1 ^a", OrderAssembler.BAD_NAME);
        Texts.errorAt(Texts.SMALL + "product q 1 a 2 ^a;", OrderAssembler.BAD_NAME);
        Texts.errorAt(Texts.SMALL + "product q 1 p 2 b 1 ^p;", OrderAssembler.BAD_NAME);
        Texts.errorAt("product p 1 ^a;part a 1 1;", OrderAssembler.BAD_NAME);
        Texts.errorAt("order ^p 1 1 1;" + Texts.SMALL, OrderAssembler.BAD_NAME);
        Texts.errorAt(Texts.SMALL + "order ^a 1 1 1;", OrderAssembler.BAD_NAME);
        Texts.errorAt(Texts.SMALL + "order ^whole 1 1 1;", OrderAssembler.BAD_NAME);
    }

    private static void tooManyErrors() {
        StringBuilder parts = new StringBuilder();
        for (char name = 'a'; name < 'a' + 12; name++) {
            parts.append("part ").append(name).append(" 1 1;");
        }
        Texts.right(parts.toString(), 0);
        Texts.errorAt(parts + " ^part", OrderAssembler.TOO_MANY);
        Texts.errorAt(parts + "^part a 1 1;", OrderAssembler.TOO_MANY);
        StringBuilder products = new StringBuilder("part a 1 1;");
        for (char name = 'p'; name < 'p' + 8; name++) {
            products.append("product ").append(name).append(" 1 a;");
        }
        Texts.right(products.toString(), 8);
        Texts.errorAt(products + "^product z 1 a;", OrderAssembler.TOO_MANY);
        String rungs = "rung 0 9 9;".repeat(6);
        Texts.right(rungs, 0);
        Texts.errorAt(rungs + "^rung", OrderAssembler.TOO_MANY);
        String orders = Texts.SMALL + "order p 1 1 1;".repeat(20);
        Texts.errorAt(orders + "\n^order p 1 1 1;", OrderAssembler.TOO_MANY);
        Texts.errorAt(orders + "^orders", OrderAssembler.SYNTAX);
        Texts.errorAt(parts + "product p 1 a 1 b 1 c 1 d 1 e 1 f ^1 g;", OrderAssembler.TOO_MANY);
        Texts.errorAt(parts + "product p 1 a 1 b 1 c 1 d 1 e 1 f ^99999", OrderAssembler.TOO_MANY);
        Texts.errorAt(parts + "product p 1 a 1 b 1 c 1 d 1 e 1 f ^g;", OrderAssembler.SYNTAX);
    }

    private static void tooMuchErrors() {
        String nested = "part a 1 1;part b 1 1;product p 20 a;product q 20 p;product r 20 q;";
        Texts.errorAt(nested + "product s 2 ^r;", OrderAssembler.TOO_MUCH);
        Texts.right(nested + "product s 1 r 4 q 19 p 19 a;", 4);
        Texts.errorAt(nested + "product s 1 r 5 ^q;", OrderAssembler.TOO_MUCH);
        Texts.right(nested + "product t 20 b 19 p 19 a;product s 1 r 4 q 1 t;", 5);
        Texts.errorAt(nested + "product t 20 b 20 p 1 a;product s 1 r 4 q 1 ^t;", OrderAssembler.TOO_MUCH);
        Texts.errorAt(nested + "product s 1 r 20 ^r;", OrderAssembler.BAD_NAME);
        Texts.right(nested + "product s 1 r 4 q 20 b;product t 20 b 19 p 19 a;", 5);
    }

    private static void promises5And6LatestLoad() {
        OrderAssembler x = new OrderAssembler();
        Check.enter(x, "part a 1 1;part a");
        Check.badArgument("a wrong text", x::load);
        Check.due("errorOffset()", x.errorOffset(), 16);
        Check.due("errorKind()", x.errorKind(), OrderAssembler.BAD_NAME);
        Check.enter(x, "rung 9 8");
        Check.badArgument("another wrong text", x::load);
        Check.due("the later errorOffset()", x.errorOffset(), 7);
        Check.due("the later errorKind()", x.errorKind(), OrderAssembler.BAD_NUMBER);
        x.append(0, 0, 0, 0, 0);
        x.truncate(0);
        x.allocate();
        x.undo();
        Check.due("errorOffset() until the next load", x.errorOffset(), 7);
        x.load();
        Check.due("errorOffset() after a right text", x.errorOffset(), OrderAssembler.NONE);
        Check.due("errorKind() after a right text", x.errorKind(), 0);
        Check.enter(x, "part a 1 1;".repeat(81) + "         ");
        Check.badArgument("a text of 900 bytes", x::load);
        Check.due("errorOffset() in a text of 900 bytes", x.errorOffset(), 16);
        Check.enter(x, " ".repeat(899) + "p");
        Check.badArgument("an error at the last byte", x::load);
        Check.due("errorOffset() at the last byte", x.errorOffset(), 899);
        Check.enter(x, " ".repeat(896) + "rung");
        Check.badArgument("900 bytes that end too early", x::load);
        Check.due("errorOffset() behind the last byte", x.errorOffset(), 900);
    }
}
