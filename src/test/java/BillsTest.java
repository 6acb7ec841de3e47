/** Promises 7 to 15: counts and bills of material. */
public final class BillsTest {
    private BillsTest() { }

    public static void main(String[] args) {
        OrderAssembler x = Check.loaded(Check.FURNITURE);
        promise7Count(x);
        promises8To10Lines(x);
        promise11Need(x);
        promise12Level(x);
        promise13Pieces(x);
        promises14And15Sets(x);
        fullBills();
        Check.end();
    }

    private static void promise7Count(OrderAssembler x) {
        int[] counts = {3, 3, 3, 2, 0};
        for (int what = 0; what < 5; what++) {
            Check.due("count(" + what + ")", x.count(what), counts[what]);
        }
        Check.due("count(-1)", x.count(-1), OrderAssembler.NONE);
        Check.due("count(5)", x.count(5), OrderAssembler.NONE);
        Check.due("count of the least int", x.count(Integer.MIN_VALUE), OrderAssembler.NONE);
        x.buy(0, 1);
        x.buy(0, 1);
        x.addOrder(0, 1, 0, 0, false);
        Check.due("count(4) after two purchases", x.count(4), 2);
        Check.due("count(2) after addOrder", x.count(2), 4);
        x.cancel(3);
        Check.due("count(2) after cancel", x.count(2), 4);
    }

    private static void promises8To10Lines(OrderAssembler x) {
        Check.due("lineCount(KIT)", x.lineCount(Check.KIT), 2);
        Check.outside("lineCount(-1)", () -> x.lineCount(-1));
        Check.outside("lineCount(3)", () -> x.lineCount(3));
        Check.due("lineItem: a part", x.lineItem(Check.KIT, 0), Check.BOLT);
        Check.due("lineItem: the next part", x.lineItem(Check.KIT, 1), Check.LEG);
        Check.due("lineItem: a product", x.lineItem(Check.TABLE, 0), 100 + Check.KIT);
        Check.due("lineItem: no such line", x.lineItem(Check.TABLE, 2), OrderAssembler.NONE);
        Check.due("lineItem: line -1", x.lineItem(Check.TABLE, -1), OrderAssembler.NONE);
        Check.due("lineItem: line 6", x.lineItem(Check.TABLE, 6), OrderAssembler.NONE);
        Check.outside("lineItem of no product", () -> x.lineItem(3, 0));
        Check.outside("lineItem of no product and no line", () -> x.lineItem(-1, -1));
        Check.due("lineQuantity", x.lineQuantity(Check.KIT, 0), 4);
        Check.due("lineQuantity of the next line", x.lineQuantity(Check.KIT, 1), 2);
        Check.due("lineQuantity of a product", x.lineQuantity(Check.TABLE, 0), 2);
        Check.due("lineQuantity: no such line", x.lineQuantity(Check.STOOL, 2), OrderAssembler.NONE);
        Check.due("lineQuantity: line -1", x.lineQuantity(Check.STOOL, -1), OrderAssembler.NONE);
        Check.outside("lineQuantity of no product", () -> x.lineQuantity(3, 0));
    }

    private static void promise11Need(OrderAssembler x) {
        int[][] needs = {{2, 0, 4}, {4, 1, 8}, {3, 0, 2}};
        for (int product = 0; product < 3; product++) {
            for (int part = 0; part < 3; part++) {
                Check.due("need(" + product + ", " + part + ")", x.need(product, part), needs[product][part]);
            }
        }
        Check.outside("need of no product", () -> x.need(3, 0));
        Check.outside("need for no part", () -> x.need(0, 3));
        Check.outside("need for part -1", () -> x.need(0, -1));
    }

    private static void promise12Level(OrderAssembler x) {
        Check.due("level of parts alone", x.level(Check.KIT), 1);
        Check.due("level with a product", x.level(Check.TABLE), 2);
        Check.due("level of parts alone again", x.level(Check.STOOL), 1);
        Check.outside("level(3)", () -> x.level(3));
        OrderAssembler y = Check.loaded("part a 1 1;product p 1 a;product q 1 p;product r 1 q 1 a 1 p;product s 1 p 1 r;");
        Check.due("level of nested products", y.level(2), 3);
        Check.due("level with the highest last", y.level(3), 4);
    }

    private static void promise13Pieces(OrderAssembler x) {
        Check.due("pieces(TABLE)", x.pieces(Check.TABLE), 13);
        Check.due("pieces(STOOL)", x.pieces(Check.STOOL), 5);
        Check.outside("pieces(-1)", () -> x.pieces(-1));
    }

    private static void promises14And15Sets(OrderAssembler x) {
        Check.due("usedBy(LEG)", x.usedBy(Check.LEG), 7);
        Check.due("usedBy(TOP)", x.usedBy(Check.TOP), 2);
        Check.outside("usedBy(3)", () -> x.usedBy(3));
        Check.outside("usedBy(-1)", () -> x.usedBy(-1));
        Check.due("commonParts(TABLE, STOOL)", x.commonParts(Check.TABLE, Check.STOOL), 5);
        Check.due("commonParts of the same", x.commonParts(Check.TABLE, Check.TABLE), 7);
        Check.outside("commonParts with no other", () -> x.commonParts(0, 3));
        Check.outside("commonParts of no product", () -> x.commonParts(3, 0));
        OrderAssembler y = Check.loaded("part a 1 1;part b 1 1;part c 1 1;product p 1 a;product q 1 b;");
        Check.due("commonParts of none", y.commonParts(0, 1), 0);
        Check.due("usedBy of a part that nothing needs", y.usedBy(2), 0);
    }

    private static void fullBills() {
        StringBuilder text = new StringBuilder();
        for (char name = 'a'; name < 'a' + 12; name++) {
            text.append("part ").append(name).append(" 9 9;");
        }
        text.append("product p 1 a 2 b 3 c 4 d 5 e 6 f;product q 20 g 19 h 18 i 17 j 16 k 15 l;");
        text.append("product r 1 p 1 q;product s 10 r 1 p 1 l;product t 1 s;product u 1 t;product v 1 u;product w 1 v;");
        OrderAssembler x = Check.loaded(text.toString());
        Check.due("the number of products", x.count(1), 8);
        Check.due("six lines", x.lineCount(0), 6);
        Check.due("the sixth line's item", x.lineItem(0, 5), 5);
        Check.due("the sixth line's quantity", x.lineQuantity(1, 5), 15);
        Check.due("the need through several levels", x.need(7, 0), 11);
        Check.due("the need along two ways", x.need(3, 11), 151);
        Check.due("the level of the last", x.level(7), 7);
        Check.due("the pieces of the last", x.pieces(7), 10 * (21 + 105) + 21 + 1);
        Check.due("the users of part 11", x.usedBy(11), 254);
        Check.due("the common parts", x.commonParts(0, 7), 63);
        Check.outside("a ninth product", () -> x.level(8));
        Check.outside("a thirteenth part", () -> x.usedBy(12));
    }
}
