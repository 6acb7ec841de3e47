/** Promises 54 to 58: totals, the shipment log, formatted text. */
public final class LogAndTextTest {
    private LogAndTextTest() { }

    public static void main(String[] args) {
        promise54Total();
        promise55Shipment();
        undoRestoresTheLog();
        promise56FormatOrder();
        promise57FormatNeeds();
        promise58FormattedByte();
        Check.end();
    }

    private static void totals(OrderAssembler x, String when, int... due) {
        for (int what = 0; what < 5; what++) {
            Check.due("total(" + what + ") " + when, x.total(what), due[what]);
        }
    }

    private static void promise54Total() {
        OrderAssembler x = Check.loaded(Check.FURNITURE);
        totals(x, "at first", 0, 0, 0, 0, 0);
        x.advance(5);
        x.reserve(1, 2);
        x.ship(1);
        totals(x, "after a shipment on the due day", 1, 2, 0, 0, 0);
        x.advance(1);
        x.reserve(1, 1);
        x.ship(1);
        totals(x, "after a shipment a day late", 2, 3, 1, 1, 0);
        x.advance(8);
        x.reserve(0, 3);
        x.ship(0);
        totals(x, "after a shipment 4 days late", 3, 6, 4, 13, 0);
        x.buy(0, 7);
        x.buy(1, 999);
        totals(x, "after purchases", 3, 6, 4, 13, 1006);
        x.advance(60);
        totals(x, "after the arrivals", 3, 6, 4, 13, 1006);
        x.undo();
        x.undo();
        totals(x, "after undoing a purchase", 3, 6, 4, 13, 7);
        Check.due("total(-1)", x.total(-1), OrderAssembler.NONE);
        Check.due("total(5)", x.total(5), OrderAssembler.NONE);
    }

    private static void promise55Shipment() {
        OrderAssembler x = Check.loaded("part a 9999 1;product p 1 a;order p 99 1 1;order p 99 1 1;");
        Check.due("shipment(0, 0) at first", x.shipment(0, 0), OrderAssembler.NONE);
        for (int k = 1; k <= 20; k++) {
            x.reserve(k % 2, k % 4 + 1);
            x.ship(k % 2);
            int kept = Math.min(k, 16);
            Check.due("the latest shipment", x.shipment(0, 0), k % 2);
            Check.due("the oldest shipment", x.shipment(kept - 1, 2), k - kept);
            Check.due("behind the oldest shipment", x.shipment(kept, 0), OrderAssembler.NONE);
            x.advance(1);
        }
        for (int ago = 0; ago < 16; ago++) {
            int k = 20 - ago;
            Check.due("the order of shipment " + ago, x.shipment(ago, 0), k % 2);
            Check.due("the units of shipment " + ago, x.shipment(ago, 1), k % 4 + 1);
            Check.due("the day of shipment " + ago, x.shipment(ago, 2), k - 1);
        }
        Check.due("shipment(16, 0)", x.shipment(16, 0), OrderAssembler.NONE);
        Check.due("shipment(-1, 0)", x.shipment(-1, 0), OrderAssembler.NONE);
        Check.due("shipment(0, -1)", x.shipment(0, -1), OrderAssembler.NONE);
        Check.due("shipment(0, 3)", x.shipment(0, 3), OrderAssembler.NONE);
        Check.due("shipment of the least int", x.shipment(Integer.MIN_VALUE, 0), OrderAssembler.NONE);
        Check.due("shipment of the greatest int", x.shipment(Integer.MAX_VALUE, 0), OrderAssembler.NONE);
        Check.due("total(0) counts all", x.total(0), 20);
    }

    private static void undoRestoresTheLog() {
        OrderAssembler x = Check.loaded("part a 9999 1;product p 1 a;order p 99 1 1;");
        for (int k = 1; k <= 17; k++) {
            x.reserve(0, k > 16 ? 5 : 1);
            x.ship(0);
            x.advance(1);
        }
        Check.due("the oldest kept", x.shipment(15, 2), 1);
        x.undo();
        x.undo();
        Check.due("the oldest is there again", x.shipment(15, 2), 0);
        Check.due("the latest is gone", x.shipment(0, 1), 1);
        Check.due("the number of shipments", x.total(0), 16);
    }

    private static void format(OrderAssembler x, int order, String text) {
        Check.due("formatOrder(" + order + ")", x.formatOrder(order), text.length());
        Check.due("the text of order " + order, Check.formatted(x), text);
    }

    private static void promise56FormatOrder() {
        OrderAssembler x = Check.loaded(Check.FURNITURE);
        format(x, 0, "table x3 c7 d10 o3 r0 s0");
        format(x, 2, "stool x2 c9 d12 w o2 r0 s0");
        x.addOrder(0, 10, 0, 100, false);
        format(x, 3, "kit x10 c0 d100 o10 r0 s0");
        x.reserve(1, 3);
        x.ship(1);
        x.reserve(1, 2);
        format(x, 1, "stool x6 c2 d5 o1 r2 s3");
        x.cancel(1);
        format(x, 1, "stool x6 c2 d5 o0 r0 s3 cancelled");
        x.cancel(2);
        format(x, 2, "stool x2 c9 d12 w o0 r0 s0 cancelled");
        Check.outside("formatOrder(4)", () -> x.formatOrder(4));
        Check.outside("formatOrder(-1)", () -> x.formatOrder(-1));
        Check.due("the text stays", Check.formatted(x), "stool x2 c9 d12 w o0 r0 s0 cancelled");
        OrderAssembler y = Check.loaded("part a 9999 1;product abcdefgh 1 a;order abcdefgh 99 9 999 whole;");
        format(y, 0, "abcdefgh x99 c9 d999 w o99 r0 s0");
        y.allocate();
        format(y, 0, "abcdefgh x99 c9 d999 w o0 r99 s0");
        y.ship(0);
        format(y, 0, "abcdefgh x99 c9 d999 w o0 r0 s99");
    }

    private static void formatNeeds(OrderAssembler x, int product, String text) {
        Check.due("formatNeeds(" + product + ")", x.formatNeeds(product), text.length());
        Check.due("the needs of product " + product, Check.formatted(x), text);
    }

    private static void promise57FormatNeeds() {
        OrderAssembler x = Check.loaded(Check.FURNITURE);
        formatNeeds(x, Check.TABLE, "table: 4leg 1top 8bolt");
        formatNeeds(x, Check.STOOL, "stool: 3leg 2bolt");
        formatNeeds(x, Check.KIT, "kit: 2leg 4bolt");
        Check.outside("formatNeeds(3)", () -> x.formatNeeds(3));
        Check.outside("formatNeeds(-1)", () -> x.formatNeeds(-1));
        Check.due("the text stays", Check.formatted(x), "kit: 2leg 4bolt");
        StringBuilder text = new StringBuilder();
        StringBuilder needs = new StringBuilder("abcdefgh:");
        for (char name = 'a'; name < 'a' + 12; name++) {
            text.append("part partpar").append(name).append(" 1 1;");
            needs.append(" 8000partpar").append(name);
        }
        text.append("product p 20partpara20partparb20partparc20partpard20partpare20partparf;");
        text.append("product q 20partparg20partparh20partpari20partparj20partpark20partparl;");
        text.append("product r 20p20q;product abcdefgh 20r;");
        formatNeeds(Check.loaded(text.toString()), 3, needs.toString());
    }

    private static void promise58FormattedByte() {
        OrderAssembler x = Check.loaded(Check.FURNITURE);
        Check.due("formattedByte(0) at first", x.formattedByte(0), OrderAssembler.NONE);
        int length = x.formatNeeds(Check.TABLE);
        Check.due("formattedByte(0)", x.formattedByte(0), 't');
        Check.due("formattedByte(7)", x.formattedByte(7), '4');
        Check.due("the last byte", x.formattedByte(length - 1), 't');
        Check.due("behind the last byte", x.formattedByte(length), OrderAssembler.NONE);
        Check.due("formattedByte(-1)", x.formattedByte(-1), OrderAssembler.NONE);
        Check.due("formattedByte of the greatest int", x.formattedByte(Integer.MAX_VALUE), OrderAssembler.NONE);
        int shorter = x.formatNeeds(Check.KIT);
        Check.due("behind a shorter text", x.formattedByte(shorter), OrderAssembler.NONE);
        x.allocate();
        x.undo();
        Check.due("the text stays", x.formattedByte(0), 'k');
    }
}
