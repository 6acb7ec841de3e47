import java.nio.charset.StandardCharsets;
import java.util.Arrays;

/** How OrderAssembler is used; README.md shows this file and what it prints. */
public final class Example {
    private static final String TEXT = """
        part leg 40 5; part top 9 8; part bolt 100 2;
        product kit 4 bolt 2 leg; product table 2 kit 1 top;
        rung 5 9 50; rung 0 9 100;
        order table 6 7 10; order kit 2 9 12 whole;
        """;

    private Example() { }

    public static void main(String[] args) {
        OrderAssembler shop = new OrderAssembler();
        enter(shop, TEXT);
        try {
            System.out.println(shop.load() + " products, " + shop.count(2) + " orders");
        } catch (IllegalArgumentException wrong) {
            System.out.println("error " + shop.errorKind() + " at offset " + shop.errorOffset());
            return;
        }
        shop.formatNeeds(1);
        System.out.println(formatted(shop));
        System.out.println("10 tables would be ready on day " + shop.promise(1, 10));
        System.out.println("order 0 would get " + shop.wouldGet(0) + " units, first in rung " + shop.rungOf(0));
        System.out.println("allocated " + shop.allocate() + " units, shipped " + shop.ship(0));
        shop.formatOrder(0);
        System.out.println(formatted(shop));
        System.out.println("stock of legs: " + shop.stock(0) + ", " + shop.reserved(0) + " of them reserved");
        System.out.println("5 legs come on day " + shop.buy(0, 5) + "; arrivals up to then: " + shop.advance(5));
        System.out.println(shop.undo() + " actions can still be undone; it is day " + shop.day());
    }

    /** The buffer takes twenty bytes a call, so the filling behind the text is cut off. */
    private static void enter(OrderAssembler shop, String text) {
        byte[] bytes = text.getBytes(StandardCharsets.ISO_8859_1);
        for (int start = 0; start < bytes.length; start += 20) {
            byte[] b = Arrays.copyOfRange(bytes, start, start + 20);
            shop.append(word(b, 0), word(b, 4), word(b, 8), word(b, 12), word(b, 16));
        }
        shop.truncate(bytes.length);
    }

    private static int word(byte[] b, int at) {
        return (b[at] & 255) << 24 | (b[at + 1] & 255) << 16 | (b[at + 2] & 255) << 8 | b[at + 3] & 255;
    }

    private static String formatted(OrderAssembler shop) {
        StringBuilder text = new StringBuilder();
        for (int k = 0; shop.formattedByte(k) != OrderAssembler.NONE; k++) {
            text.append((char) shop.formattedByte(k));
        }
        return text.toString();
    }
}
