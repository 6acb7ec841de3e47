/** The boundary cases of totals, the shipment log and formatted text (promises 54 to 58): a method for each sentence. */
public final class LogBoundaryTest {
    private static final String MANY = "part a 9999 1;product p 1 a;order p 99 1 3;order p 99 1 999;";

    private LogBoundaryTest() { }

    public static void main(String[] args) {
        Check.run(LogBoundaryTest::totals);
        Check.run(LogBoundaryTest::lateUnits);
        Check.run(LogBoundaryTest::lateDays);
        Check.run(LogBoundaryTest::bought);
        Check.run(LogBoundaryTest::noSuchTotal);
        Check.run(LogBoundaryTest::latestSixteen);
        Check.run(LogBoundaryTest::noSuchShipment);
        Check.run(LogBoundaryTest::undoneShipments);
        Check.run(LogBoundaryTest::formatOrder);
        Check.run(LogBoundaryTest::formatWhole);
        Check.run(LogBoundaryTest::formatCancelled);
        Check.run(LogBoundaryTest::formatNeeds);
        Check.run(LogBoundaryTest::decimalNumbers);
        Check.run(LogBoundaryTest::replacedText);
        Check.run(LogBoundaryTest::formattedByte);
        Check.end();
    }

    private static void ship(OrderAssembler x, int order, int units) {
        x.reserve(order, units);
        x.ship(order);
    }

    private static void totals() {
        Check.says("0 the number of shipments, 1 of shipped units");
        OrderAssembler x = Check.loaded(MANY);
        Check.due("total(0) at first", x.total(0), 0);
        Check.due("total(1) at first", x.total(1), 0);
        for (int time = 1; time <= 40; time++) {
            ship(x, time % 2, 2);
            Check.due("total(0)", x.total(0), time);
            Check.due("total(1)", x.total(1), 2 * time);
        }
        x.undo();
        Check.due("total(0) after undo", x.total(0), 39);
        Check.due("total(1) after undo", x.total(1), 78);
        Check.says("Returns this total since the text was loaded");
        for (int time = 0; time < 3; time++) {
            Check.enter(x, MANY);
            x.load();
            for (int what = 0; what < 5; what++) {
                Check.due("total(" + what + ") after load", x.total(what), 0);
            }
            x.advance(10);
            x.buy(0, 999);
            ship(x, 0, 99);
            int[] due = {1, 99, 99, 99 * 7, 999};
            for (int what = 0; what < 5; what++) {
                Check.due("total(" + what + ") of one shipment and one purchase", x.total(what), due[what]);
            }
        }
    }

    private static void lateUnits() {
        Check.says("2 of shipped units whose shipment was after the due day");
        OrderAssembler x = Check.loaded(MANY);
        x.advance(2);
        ship(x, 0, 5);
        Check.due("a day before the due day", x.total(2), 0);
        x.advance(1);
        ship(x, 0, 7);
        Check.due("on the due day", x.total(2), 0);
        x.advance(1);
        ship(x, 0, 11);
        Check.due("a day after the due day", x.total(2), 11);
        ship(x, 1, 13);
        Check.due("another order that is not late", x.total(2), 11);
        x.reserve(0, 1);
        x.cancel(0);
        Check.due("units that are not shipped", x.total(2), 11);
        OrderAssembler y = Check.loaded("part a 9 1;product p 1 a;order p 9 1 0;");
        ship(y, 0, 1);
        Check.due("on day 0, due on day 0", y.total(2), 0);
        y.advance(1);
        ship(y, 0, 1);
        Check.due("on day 1, due on day 0", y.total(2), 1);
    }

    private static void lateDays() {
        Check.says("3 the sum, over all shipped units, of the days by which the shipment was after the due day");
        OrderAssembler x = Check.loaded(MANY);
        x.advance(2);
        ship(x, 0, 5);
        Check.due("a day before the due day", x.total(3), 0);
        x.advance(1);
        ship(x, 0, 7);
        Check.due("on the due day", x.total(3), 0);
        x.advance(1);
        ship(x, 0, 11);
        Check.due("a day after the due day", x.total(3), 11);
        x.advance(1);
        ship(x, 0, 10);
        Check.due("two days after the due day", x.total(3), 31);
        OrderAssembler y = Check.loaded("part a 9999 1;product p 1 a;order p 99 1 0;");
        for (int time = 0; time < 200; time++) {
            y.advance(100);
        }
        ship(y, 0, 99);
        Check.due("many days", y.total(3), 99 * 20000);
    }

    private static void bought() {
        Check.says("4 the number of pieces that were bought");
        OrderAssembler x = Check.loaded(MANY);
        x.buy(0, 1);
        Check.due("one piece", x.total(4), 1);
        x.advance(1);
        Check.due("when it came", x.total(4), 1);
        for (int time = 1; time <= 20; time++) {
            x.buy(0, 999);
        }
        Check.due("20 purchases more", x.total(4), 19981);
        Check.badState("a refused purchase", () -> x.buy(0, 1));
        Check.due("after a refused purchase", x.total(4), 19981);
        x.undo();
        Check.due("after undo", x.total(4), 18982);
        x.adjust(0, 0);
        Check.due("after adjust", x.total(4), 18982);
    }

    private static void noSuchTotal() {
        Check.says("NONE if what is not 0 to 4");
        OrderAssembler x = Check.loaded(MANY);
        ship(x, 0, 1);
        Check.none("total(-1)", x.total(-1));
        Check.none("total(5)", x.total(5));
        for (int what : Check.FAR_OUT) {
            Check.none("total(" + what + ")", x.total(what));
        }
        Check.due("total(4)", x.total(4), 0);
    }

    private static void latestSixteen() {
        Check.says("The shipment log keeps the latest 16 shipments.");
        for (int shipments : new int[] {1, 15, 16, 17, 31, 32, 33, 48, 49}) {
            OrderAssembler x = Check.loaded(MANY);
            for (int time = 0; time < shipments; time++) {
                ship(x, time % 2, 1 + time % 3);
                x.advance(1);
            }
            int kept = Math.min(shipments, 16);
            for (int ago = 0; ago < kept; ago++) {
                int time = shipments - 1 - ago;
                Check.due("the order " + ago + " ago of " + shipments, x.shipment(ago, 0), time % 2);
                Check.due("the units " + ago + " ago of " + shipments, x.shipment(ago, 1), 1 + time % 3);
                Check.due("the day " + ago + " ago of " + shipments, x.shipment(ago, 2), time);
            }
            Check.none("one more ago of " + shipments, x.shipment(kept, 0));
        }
    }

    private static void noSuchShipment() {
        Check.says("Returns that number; NONE if the log has no such shipment, or if what is not 0 to 2.");
        OrderAssembler x = Check.loaded(MANY);
        for (int what = -1; what <= 3; what++) {
            Check.none("of an empty log", x.shipment(0, what));
        }
        ship(x, 1, 9);
        int[] due = {OrderAssembler.NONE, 1, 9, 0, OrderAssembler.NONE};
        for (int what = -1; what <= 3; what++) {
            Check.due("shipment(0, " + what + ")", x.shipment(0, what), due[what + 1]);
            Check.none("shipment(1, " + what + ")", x.shipment(1, what));
            Check.none("shipment(-1, " + what + ")", x.shipment(-1, what));
            Check.none("shipment(15, " + what + ")", x.shipment(15, what));
            Check.none("shipment(16, " + what + ")", x.shipment(16, what));
        }
        for (int far : Check.FAR_OUT) {
            Check.none("shipment(" + far + ", 0)", x.shipment(far, 0));
            Check.none("shipment(0, " + far + ")", x.shipment(0, far));
            Check.none("shipment(" + far + ", " + far + ")", x.shipment(far, far));
        }
        for (int time = 0; time < 30; time++) {
            ship(x, 1, 1);
        }
        Check.due("the oldest of a full log", x.shipment(15, 1), 1);
        Check.none("older than a full log", x.shipment(16, 1));
        Check.none("shipment(-1, 1) of a full log", x.shipment(-1, 1));
        x.load();
        Check.none("after load", x.shipment(0, 0));
    }

    private static void undoneShipments() {
        Check.says("Undoing an action restores .. the shipment log");
        OrderAssembler x = Check.loaded(MANY);
        for (int time = 0; time < 20; time++) {
            ship(x, 0, 1 + time % 4);
            x.advance(1);
        }
        // Three undone calls a shipment: the day, the shipment, the reservation.
        for (int time = 19; time >= 16; time--) {
            x.undo();
            x.undo();
            x.undo();
            for (int ago = 0; ago < 16; ago++) {
                Check.due("the day " + ago + " ago", x.shipment(ago, 2), time - 1 - ago);
                Check.due("the units " + ago + " ago", x.shipment(ago, 1), 1 + (time - 1 - ago) % 4);
            }
            Check.none("older than a full log", x.shipment(16, 0));
            Check.due("total(0)", x.total(0), time);
        }
    }

    private static void format(OrderAssembler x, int order, String text) {
        Check.due("formatOrder(" + order + ")", x.formatOrder(order), text.length());
        Check.due("the text of order " + order, Check.formatted(x), text);
    }

    private static void formatOrder() {
        Check.says("The text is the name of its product, \" x\", its quantity, \" c\", its class, \" d\", its due day; .. "
            + "then \" o\", \" r\" and \" s\", each followed by the number of its open, reserved and shipped units");
        OrderAssembler x = Check.loaded("part a 9999 1;product b 1 a;product abcdefgh 1 a;order b 1 0 0;"
            + "order abcdefgh 99 9 999;order b 10 5 100;");
        format(x, 0, "b x1 c0 d0 o1 r0 s0");
        format(x, 1, "abcdefgh x99 c9 d999 o99 r0 s0");
        format(x, 2, "b x10 c5 d100 o10 r0 s0");
        x.reserve(1, 99);
        format(x, 1, "abcdefgh x99 c9 d999 o0 r99 s0");
        x.ship(1);
        format(x, 1, "abcdefgh x99 c9 d999 o0 r0 s99");
        ship(x, 2, 3);
        x.reserve(2, 2);
        format(x, 2, "b x10 c5 d100 o5 r2 s3");
        Check.says("Returns the length of the text.");
        Check.due("the shortest text", x.formatOrder(0), 19);
    }

    private static void formatWhole() {
        Check.says("then \" w\" if it is a whole order");
        OrderAssembler x = Check.loaded("part a 9999 1;product b 1 a;order b 2 0 0 whole;order b 2 0 0;");
        format(x, 0, "b x2 c0 d0 w o2 r0 s0");
        format(x, 1, "b x2 c0 d0 o2 r0 s0");
        x.allocate();
        format(x, 0, "b x2 c0 d0 w o0 r2 s0");
        x.ship(0);
        format(x, 0, "b x2 c0 d0 w o0 r0 s2");
    }

    private static void formatCancelled() {
        Check.says("and \" cancelled\" if it is cancelled");
        OrderAssembler x = Check.loaded("part a 9999 1;product abcdefgh 1 a;order abcdefgh 99 9 999 whole;"
            + "order abcdefgh 99 9 999;order abcdefgh 1 1 1;");
        x.cancel(0);
        format(x, 0, "abcdefgh x99 c9 d999 w o0 r0 s0 cancelled");
        ship(x, 1, 98);
        x.cancel(1);
        format(x, 1, "abcdefgh x99 c9 d999 o0 r0 s98 cancelled");
        ship(x, 2, 1);
        format(x, 2, "abcdefgh x1 c1 d1 o0 r0 s1");
        x.undo();
        x.undo();
        x.undo();
        format(x, 1, "abcdefgh x99 c9 d999 o1 r0 s98");
    }

    private static void needs(OrderAssembler x, int product, String text) {
        Check.due("formatNeeds(" + product + ")", x.formatNeeds(product), text.length());
        Check.due("the needs of product " + product, Check.formatted(x), text);
    }

    private static void formatNeeds() {
        Check.says("The text is its name and \":\"; then, for each part that it needs in the order of their numbers, a "
            + "space, the need, and directly behind it the name of the part.");
        OrderAssembler x = Check.loaded("part z 1 1;part y 1 1;part abcdefgh 1 1;product p 1 abcdefgh 2 z;product q 1 y;"
            + "product hgfedcba 20 p 20 q;");
        needs(x, 0, "p: 2z 1abcdefgh");
        needs(x, 1, "q: 1y");
        needs(x, 2, "hgfedcba: 40z 20y 20abcdefgh");
        StringBuilder text = new StringBuilder();
        StringBuilder due = new StringBuilder("zzzzzzzz:");
        for (char name = 'a'; name < 'a' + 12; name++) {
            text.append("part ").append(String.valueOf(name).repeat(8)).append(" 1 1;");
            due.append(" 9999").append(String.valueOf(name).repeat(8));
        }
        text.append("product h 20aaaaaaaa20bbbbbbbb20cccccccc20dddddddd20eeeeeeee20ffffffff;");
        text.append("product i 20gggggggg20hhhhhhhh20iiiiiiii20jjjjjjjj20kkkkkkkk20llllllll;");
        text.append("product m 19aaaaaaaa19bbbbbbbb19cccccccc19dddddddd19eeeeeeee19ffffffff;");
        text.append("product n 19gggggggg19hhhhhhhh19iiiiiiii19jjjjjjjj19kkkkkkkk19llllllll;");
        // The longest text, 9999 of each of 12 parts: 20 * 400 + 4 * 400 + 19 * 20 + 19.
        text.append("product j20h20i;product k1j;product zzzzzzzz20j4k19h19i1m1n;");
        needs(Check.loaded(text.toString()), 6, due.toString());
        Check.due("the length of the longest text", due.length(), 9 + 12 * 13);
    }

    private static void decimalNumbers() {
        Check.says("Numbers are decimal.");
        OrderAssembler x = Check.loaded("part a 1 1;part b 1 1;part c 1 1;part d 1 1;product p 10 a 20 b 1 c;"
            + "product q 10 p 9 c;product r 10 q 7 a 1 d;");
        needs(x, 0, "p: 10a 20b 1c");
        needs(x, 1, "q: 100a 200b 19c");
        needs(x, 2, "r: 1007a 2000b 190c 1d");
        OrderAssembler y = Check.loaded("part a 1 1;product p 1 a;order p 0020 0 0100;order p 90 9 909;");
        format(y, 0, "p x20 c0 d100 o20 r0 s0");
        format(y, 1, "p x90 c9 d909 o90 r0 s0");
    }

    private static void replacedText() {
        Check.says("The text replaces the previous formatted text.");
        OrderAssembler x = Check.loaded(Check.FURNITURE);
        format(x, 2, "stool x2 c9 d12 w o2 r0 s0");
        needs(x, Check.KIT, "kit: 2leg 4bolt");
        Check.none("behind the shorter text", x.formattedByte(15));
        format(x, 0, "table x3 c7 d10 o3 r0 s0");
        Check.says("A call that throws changes nothing");
        Check.refused(x, "formatOrder(3)", IndexOutOfBoundsException.class, () -> x.formatOrder(3));
        Check.refused(x, "formatNeeds(3)", IndexOutOfBoundsException.class, () -> x.formatNeeds(3));
        Check.due("the text stays", Check.formatted(x), "table x3 c7 d10 o3 r0 s0");
        Check.says("Undoing an action restores .. (not the formatted text)");
        x.allocate();
        Check.due("the text after an action", Check.formatted(x), "table x3 c7 d10 o3 r0 s0");
        x.undo();
        Check.due("the text after undo", Check.formatted(x), "table x3 c7 d10 o3 r0 s0");
    }

    private static void formattedByte() {
        Check.says("Returns the byte at that offset; NONE if there is none.");
        OrderAssembler x = Check.loaded(Check.FURNITURE);
        for (int index = -1; index < 300; index++) {
            Check.none("formattedByte(" + index + ") before any text", x.formattedByte(index));
        }
        String text = "kit: 2leg 4bolt";
        x.formatNeeds(Check.TABLE);
        x.formatNeeds(Check.KIT);
        for (int index = 0; index < text.length(); index++) {
            Check.due("formattedByte(" + index + ")", x.formattedByte(index), text.charAt(index));
        }
        for (int index = text.length(); index < 300; index++) {
            Check.none("formattedByte(" + index + ")", x.formattedByte(index));
        }
        Check.none("formattedByte(-1)", x.formattedByte(-1));
        for (int index : Check.FAR_OUT) {
            Check.none("formattedByte(" + index + ")", x.formattedByte(index));
        }
    }
}
