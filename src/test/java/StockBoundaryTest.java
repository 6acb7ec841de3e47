/** The boundary cases of bills, stock and numbers of things (promises 7 to 23): a method for each sentence. */
public final class StockBoundaryTest {
    private StockBoundaryTest() { }

    public static void main(String[] args) {
        Check.run(StockBoundaryTest::numberedFromZero);
        Check.run(StockBoundaryTest::mostLines);
        Check.run(StockBoundaryTest::needAlongSeveralWays);
        Check.run(StockBoundaryTest::levels);
        Check.run(StockBoundaryTest::count);
        Check.run(StockBoundaryTest::lines);
        Check.run(StockBoundaryTest::noSuchLine);
        Check.run(StockBoundaryTest::needs);
        Check.run(StockBoundaryTest::pieces);
        Check.run(StockBoundaryTest::usedBy);
        Check.run(StockBoundaryTest::commonParts);
        Check.run(StockBoundaryTest::day);
        Check.run(StockBoundaryTest::reservedAtFirst);
        Check.run(StockBoundaryTest::freeNeverBelowZero);
        Check.run(StockBoundaryTest::arriving);
        Check.run(StockBoundaryTest::nextArrival);
        Check.run(StockBoundaryTest::buildable);
        Check.run(StockBoundaryTest::bottleneck);
        Check.run(StockBoundaryTest::bottleneckOfSeveral);
        Check.run(StockBoundaryTest::together);
        Check.run(StockBoundaryTest::togetherWithItself);
        Check.end();
    }

    private static void numberedFromZero() {
        Check.says("There are at most 12 parts and 8 products, each numbered from 0 in the order of the input text.");
        OrderAssembler x = Check.loaded("part z 7 1;part y 8 1;product b 1 y;part x 9 1;product a 1 x;");
        for (int part = 0; part < 3; part++) {
            Check.due("stock(" + part + ")", x.stock(part), 7 + part);
        }
        Check.due("the item of product 0", x.lineItem(0, 0), 1);
        Check.due("the item of product 1", x.lineItem(1, 0), 2);
        OrderAssembler full = Check.loaded(Texts.full());
        Check.due("12 parts", full.count(0), 12);
        Check.due("8 products", full.count(1), 8);
        Check.due("the last part", full.stock(11), 1);
        Check.due("the last product", full.lineCount(7), 1);
        Check.outside("a 13th part", () -> full.stock(12));
        Check.outside("a 9th product", () -> full.lineCount(8));
    }

    private static void mostLines() {
        Check.says("A product has a bill of 1 to 6 lines");
        OrderAssembler x = Check.loaded(Texts.parts(6) + "product p 1 a;product q 1 p 2 a 3 b 4 c 5 d 6 e;");
        Check.due("one line", x.lineCount(0), 1);
        Check.due("six lines", x.lineCount(1), 6);
        Check.due("the first item", x.lineItem(1, 0), 100);
        Check.due("the sixth item", x.lineItem(1, 5), 4);
        Check.due("the sixth quantity", x.lineQuantity(1, 5), 6);
    }

    private static void needAlongSeveralWays() {
        Check.says("The need of a product for a part is the number of pieces of the part in one unit: the sum, over its "
            + "lines, of the quantity for a line with this part, and of the quantity times the need of the item for a "
            + "line with a product.");
        OrderAssembler x = Check.loaded("part a 1 1;part b 1 1;product p 2 a;product q 3 p 4 a;product r 5 q 6 p 7 a;");
        Check.due("the need of q", x.need(1, 0), 3 * 2 + 4);
        Check.due("the need of r", x.need(2, 0), 5 * 10 + 6 * 2 + 7);
        Check.due("the need for another part", x.need(2, 1), 0);
        Check.due("the greatest need", Check.loaded("part a 1 1;product p 20 a;product q 20 p;product r 20 q;"
            + "product s 1 r 4 q 19 p 19 a;").need(3, 0), 9999);
    }

    private static void levels() {
        Check.says("The level of a product is 1 if its items are only parts, and otherwise 1 plus the highest level of "
            + "its items that are products.");
        OrderAssembler x = Check.loaded("part a 1 1;part b 1 1;product p 1 a 1 b;product q 1 p;product r 1 q;"
            + "product s 1 r 1 p 1 a;product t 1 p 1 r 1 a;product u 1 s;product v 1 u;product w 1 v;");
        int[] levels = {1, 2, 3, 4, 4, 5, 6, 7};
        for (int product = 0; product < 8; product++) {
            Check.due("level(" + product + ")", x.level(product), levels[product]);
        }
        Check.due("the greatest level", Check.loaded("part a 1 1;product p 1 a;product q 1 p;product r 1 q;product s 1 r;"
            + "product t 1 s;product u 1 t;product v 1 u;product w 1 v;").level(7), 8);
    }

    private static void count() {
        Check.says("Returns that number; NONE if what is not 0 to 4.");
        OrderAssembler x = Check.loaded(Texts.full());
        int[] due = {12, 8, 20, 6, 0};
        for (int what = 0; what < 5; what++) {
            Check.due("count(" + what + ")", x.count(what), due[what]);
        }
        Check.none("count(-1)", x.count(-1));
        Check.none("count(5)", x.count(5));
        for (int what : Check.FAR_OUT) {
            Check.none("count(" + what + ")", x.count(what));
        }
        for (int bought = 1; bought <= 20; bought++) {
            x.buy(0, 1);
            Check.due("count(4)", x.count(4), bought);
        }
        x.advance(1);
        Check.due("count(4) after all came", x.count(4), 0);
    }

    private static void lines() {
        Check.says("Returns the number of its item if it is a part, and 100 plus the number of its item if it is a "
            + "product; NONE if there is no such line.");
        OrderAssembler x = Check.loaded(Texts.parts(12) + Texts.products(7) + "product z 3 l 2 v 1 a 4 p;");
        int[] items = {11, 106, 0, 100};
        for (int line = 0; line < 4; line++) {
            Check.due("lineItem(7, " + line + ")", x.lineItem(7, line), items[line]);
        }
        for (int line : new int[] {4, 5, 6, 7, -1}) {
            Check.none("lineItem(7, " + line + ")", x.lineItem(7, line));
        }
        Check.none("lineItem(0, 1)", x.lineItem(0, 1));
        for (int line : Check.FAR_OUT) {
            Check.none("lineItem(7, " + line + ")", x.lineItem(7, line));
        }
    }

    private static void noSuchLine() {
        Check.says("Returns its quantity; NONE if there is no such line.");
        OrderAssembler x = Check.loaded(Texts.parts(6) + "product p 1 a 2 b 3 c 4 d 5 e 20 f;product q 9 p;");
        int[] quantities = {1, 2, 3, 4, 5, 20};
        for (int line = 0; line < 6; line++) {
            Check.due("lineQuantity(0, " + line + ")", x.lineQuantity(0, line), quantities[line]);
        }
        Check.none("lineQuantity(0, 6)", x.lineQuantity(0, 6));
        Check.none("lineQuantity(0, -1)", x.lineQuantity(0, -1));
        Check.none("lineQuantity(1, 1)", x.lineQuantity(1, 1));
        for (int line : Check.FAR_OUT) {
            Check.none("lineQuantity(0, " + line + ")", x.lineQuantity(0, line));
        }
    }

    private static void needs() {
        Check.says("Returns the need of the product for the part.");
        OrderAssembler x = Check.loaded(Texts.parts(12) + Texts.products(7) + "product z 20 l;");
        Check.due("the need of the last product for the last part", x.need(7, 11), 20);
        Check.due("the need of the last product for the first part", x.need(7, 0), 0);
        Check.due("the need of the first product for the last part", x.need(0, 11), 0);
        Check.due("the need of the first product for the first part", x.need(0, 0), 1);
    }

    private static void pieces() {
        Check.says("Returns the sum of the needs of the product for all parts.");
        OrderAssembler x = Check.loaded(Texts.parts(12) + "product m 20 a 20 b 20 c 20 d 20 e 20 f;"
            + "product n 20 g 20 h 20 i 20 j 20 k 20 l;product o 20 m 20 n;product p 20 o;product q 1 l;");
        Check.due("the pieces of all parts", x.pieces(3), 12 * 8000);
        Check.due("one piece", x.pieces(4), 1);
    }

    private static void usedBy() {
        Check.says("Returns the set of the products that need the part, as a bit set (bit k stands for product k).");
        OrderAssembler x = Check.loaded("part a 1 1;part b 1 1;part c 1 1;" + Texts.products(7) + "product z 1 p 1 b;");
        Check.due("a part of all products", x.usedBy(0), 255);
        Check.due("a part of the last product", x.usedBy(1), 128);
        Check.due("a part of no product", x.usedBy(2), 0);
        Check.due("a part when there are no products", Check.loaded(Texts.parts(12)).usedBy(11), 0);
    }

    private static void commonParts() {
        Check.says("Returns the set of the parts that both products need, as a bit set (bit k stands for part k).");
        OrderAssembler x = Check.loaded(Texts.parts(12) + "product m 1 a 1 b 1 c 1 d 1 e 1 f;"
            + "product n 1 g 1 h 1 i 1 j 1 k 1 l;product o 1 m 1 n;product p 1 l;product q 1 a;");
        Check.due("all parts of a product and itself", x.commonParts(2, 2), 4095);
        Check.due("none in common", x.commonParts(0, 1), 0);
        Check.due("the last part", x.commonParts(3, 2), 2048);
        Check.due("the first part", x.commonParts(2, 4), 1);
        Check.due("one and itself", x.commonParts(3, 3), 2048);
    }

    private static void day() {
        Check.says("The day is 0 at first.");
        OrderAssembler x = Check.loaded(Check.FURNITURE);
        Check.due("day() at first", x.day(), 0);
        Check.says("Returns the day.");
        for (int time = 1; time <= 300; time++) {
            x.advance(100);
        }
        Check.due("a late day", x.day(), 30000);
        Check.due("an arrival on a late day", x.buy(0, 1), 30005);
    }

    private static void reservedAtFirst() {
        Check.says("A part has a stock and a reserved quantity, 0 at first.");
        OrderAssembler x = Check.loaded(Texts.parts(11) + "part z 9999 1;" + Texts.products(1) + Texts.orders(1));
        for (int part = 0; part < 12; part++) {
            Check.due("reserved(" + part + ")", x.reserved(part), 0);
        }
        Check.due("the stock of the last part", x.stock(11), 9999);
        Check.says("Returns the reserved quantity of the part.");
        x.reserve(0, 1);
        Check.due("reserved(0)", x.reserved(0), 1);
        Check.due("reserved(11)", x.reserved(11), 0);
    }

    private static void freeNeverBelowZero() {
        Check.says("Its free quantity is the stock minus the reserved quantity; it is never below 0.");
        OrderAssembler x = Check.loaded("part a 12 1;part b 9999 1;product p 4 a 1 b;product q 1 b;"
            + "order p 5 1 1;order q 99 1 1;");
        Check.due("buildable from all", x.buildable(0), 3);
        x.reserve(0, 3);
        Check.due("all is reserved", x.reserved(0) - x.stock(0), 0);
        Check.due("buildable from none", x.buildable(0), 0);
        Check.refused(x, "reserve from none", IllegalStateException.class, () -> x.reserve(0, 1));
        Check.due("allocate from none", x.allocate(), 99);
        Check.due("the reserved pieces stay", x.reserved(0), 12);
        for (int stock = 11; stock >= 0; stock--) {
            x.adjust(0, stock);
            Check.yes("free with a stock of " + stock, x.stock(0) - x.reserved(0) >= 0);
            Check.due("reserved with a stock of " + stock, x.reserved(0), stock / 4 * 4);
        }
    }

    private static void arriving() {
        Check.says("Returns the sum of all arrivals of the part.");
        OrderAssembler x = Check.loaded("part a 1 60;part b 1 1;part c 1 60;");
        Check.due("arriving at first", x.arriving(0), 0);
        for (int time = 0; time < 19; time++) {
            x.buy(0, 999);
        }
        x.buy(1, 1);
        Check.due("arriving of 19", x.arriving(0), 19 * 999);
        Check.due("arriving of one", x.arriving(1), 1);
        Check.due("arriving of none", x.arriving(2), 0);
        x.advance(59);
        Check.due("arriving on the day before", x.arriving(0), 19 * 999);
        Check.due("arriving when it has come", x.arriving(1), 0);
        x.advance(1);
        Check.due("arriving on the day", x.arriving(0), 0);
    }

    private static void nextArrival() {
        Check.says("Returns the earliest day of an arrival of the part; NONE if there is none.");
        OrderAssembler x = Check.loaded("part a 1 3;part b 1 60;");
        Check.none("nextArrival at first", x.nextArrival(0));
        x.buy(1, 1);
        Check.none("nextArrival of another part", x.nextArrival(0));
        x.buy(0, 1);
        Check.due("nextArrival of one", x.nextArrival(0), 3);
        x.advance(1);
        x.buy(0, 1);
        Check.due("nextArrival of two", x.nextArrival(0), 3);
        x.advance(1);
        Check.due("nextArrival on the day before", x.nextArrival(0), 3);
        x.advance(1);
        Check.due("nextArrival after the first came", x.nextArrival(0), 4);
        x.advance(1);
        Check.none("nextArrival after both came", x.nextArrival(0));
        Check.due("nextArrival of the other part", x.nextArrival(1), 60);
    }

    private static void buildable() {
        Check.says("Returns the greatest number of units of the product that the free quantities are enough for.");
        OrderAssembler x = Check.loaded("part a 0 1;part b 20 1;part c 9999 1;part d 19 1;part e 39 1;"
            + "product p 1 a 1 c;product q 20 b;product r 1 c;product s 20 d;product t 20 e;");
        int[] due = {0, 1, 9999, 0, 1};
        for (int product = 0; product < 5; product++) {
            Check.due("buildable(" + product + ")", x.buildable(product), due[product]);
        }
        x.buy(0, 5);
        Check.due("arrivals are not free yet", x.buildable(0), 0);
        x.advance(1);
        Check.due("arrivals are free when they came", x.buildable(0), 5);
        for (int time = 0; time < 12; time++) {
            x.buy(2, 999);
        }
        x.advance(1);
        Check.due("more than 9999 pieces", x.buildable(2), 9999 + 12 * 999);
    }

    private static void bottleneck() {
        Check.says("Returns of the parts that the product needs, the one for which free quantity / need, rounded down, "
            + "is least");
        OrderAssembler x = Check.loaded("part z 0 1;part a 9 1;part b 19 1;part c 7 1;product p 2 a 4 b;product q 3 b 1 c;");
        Check.due("equal when rounded down", x.bottleneck(0), 1);
        x.adjust(2, 16);
        Check.due("4.5 against 4", x.bottleneck(0), 1);
        x.adjust(2, 15);
        Check.due("4.5 against 3.75", x.bottleneck(0), 2);
        Check.due("5 against 7", x.bottleneck(1), 2);
        x.adjust(3, 4);
        Check.due("5 against 4", x.bottleneck(1), 3);
        x.adjust(1, 0);
        Check.due("none at all", x.bottleneck(0), 1);
    }

    private static void bottleneckOfSeveral() {
        Check.says("of several the lowest number");
        OrderAssembler x = Check.loaded("part a 5 1;part b 4 1;part c 4 1;part d 4 1;product p 1 d 1 c 1 b 1 a;"
            + "product q 1 d;");
        Check.due("the lowest number of three", x.bottleneck(0), 1);
        Check.due("a product of one part", x.bottleneck(1), 3);
        x.adjust(0, 4);
        Check.due("the lowest number of four", x.bottleneck(0), 0);
        for (int part = 0; part < 4; part++) {
            x.adjust(part, 0);
        }
        Check.due("the lowest number of none", x.bottleneck(0), 0);
    }

    private static void together() {
        Check.says("Returns the greatest number of units of both products together that the free quantities are enough "
            + "for.");
        OrderAssembler x = Check.loaded("part a 0 1;part b 9999 1;part c 1 1;product p 1 a;product q 1 b;product r 1 a 1 b;"
            + "product s 1 c 1 b;product t 2 b;");
        Check.due("nothing of either", x.buildableTogether(0, 2), 0);
        Check.due("nothing of the first", x.buildableTogether(0, 1), 9999);
        Check.due("nothing of the second", x.buildableTogether(1, 0), 9999);
        Check.due("one of the second in place of one of the first", x.buildableTogether(1, 3), 9999);
        Check.due("all of the cheaper one", x.buildableTogether(1, 4), 9999);
        Check.due("all of the cheaper one, asked the other way", x.buildableTogether(4, 1), 9999);
        OrderAssembler y = Check.loaded("part a 9999 1;part b 9999 1;product p 1 a;product q 1 b;order p 99 1 1;");
        Check.due("no common parts", y.buildableTogether(0, 1), 19998);
        y.reserve(0, 99);
        Check.due("from what is free", y.buildableTogether(0, 1), 19899);
        OrderAssembler z = Check.loaded("part a 1 1;part b 1 1;product p 1 a 1 b;product q 1 a;product r 1 b;");
        Check.due("one of two", z.buildableTogether(0, 1), 1);
        Check.due("one each", z.buildableTogether(1, 2), 2);
    }

    private static void togetherWithItself() {
        Check.says("Throws IllegalArgumentException if both products are the same");
        OrderAssembler x = Check.loaded(Texts.full());
        for (int product = 0; product < 8; product++) {
            int same = product;
            Check.refused(x, "buildableTogether of " + same, IllegalArgumentException.class,
                () -> x.buildableTogether(same, same));
        }
        Check.due("the first with the last", x.buildableTogether(0, 7), 1);
    }
}
