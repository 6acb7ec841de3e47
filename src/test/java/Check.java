import java.nio.charset.StandardCharsets;
import java.util.Arrays;

/** What the tests have in common: entering texts, and comparing answers with those that are due. */
final class Check {
    static final String FURNITURE = "part leg 40 5;part top 9 8;part bolt 100 2;"
        + "product kit 4 bolt 2 leg;product table 2 kit 1 top;product stool 3 leg 2 bolt;"
        + "rung 5 9 50;rung 0 9 100;"
        + "order table 3 7 10;order stool 6 2 5;order stool 2 9 12 whole;";
    static final int LEG = 0;
    static final int TOP = 1;
    static final int BOLT = 2;
    static final int KIT = 0;
    static final int TABLE = 1;
    static final int STOOL = 2;

    private static int checks = 0;
    private static int wrong = 0;

    private Check() { }

    interface Call {
        long answer();
    }

    static void due(String what, long got, long want) {
        checks++;
        if (got != want) {
            wrong++;
            System.out.println(what + " answered " + got + ", due is " + want);
        }
    }

    static void due(String what, String got, String want) {
        checks++;
        if (!got.equals(want)) {
            wrong++;
            System.out.println(what + " answered \"" + got + "\", due is \"" + want + "\"");
        }
    }

    static void outside(String what, Call call) {
        thrown(what, call, IndexOutOfBoundsException.class);
    }

    static void badArgument(String what, Call call) {
        thrown(what, call, IllegalArgumentException.class);
    }

    static void badState(String what, Call call) {
        thrown(what, call, IllegalStateException.class);
    }

    private static void thrown(String what, Call call, Class<?> kind) {
        checks++;
        Object got;
        try {
            got = call.answer();
        } catch (RuntimeException exception) {
            got = exception.getClass();
        }
        if (got != kind) {
            wrong++;
            System.out.println(what + " answered " + got + ", due is " + kind);
        }
    }

    static void end() {
        System.out.println(checks + " checks, " + wrong + " wrong");
        System.exit(wrong == 0 && checks > 0 ? 0 : 1);
    }

    /** Fills the input buffer with just this text. */
    static void enter(OrderAssembler x, String text) {
        x.truncate(0);
        byte[] bytes = text.getBytes(StandardCharsets.ISO_8859_1);
        for (int start = 0; start < bytes.length; start += 20) {
            byte[] b = Arrays.copyOfRange(bytes, start, start + 20);
            x.append(word(b, 0), word(b, 4), word(b, 8), word(b, 12), word(b, 16));
        }
        x.truncate(bytes.length);
    }

    private static int word(byte[] b, int at) {
        return (b[at] & 255) << 24 | (b[at + 1] & 255) << 16 | (b[at + 2] & 255) << 8 | b[at + 3] & 255;
    }

    static OrderAssembler loaded(String text) {
        OrderAssembler x = new OrderAssembler();
        enter(x, text);
        x.load();
        return x;
    }

    /** The formatted text, byte by byte up to the first NONE. */
    static String formatted(OrderAssembler x) {
        StringBuilder text = new StringBuilder();
        for (int k = 0; x.formattedByte(k) != OrderAssembler.NONE; k++) {
            text.append((char) x.formattedByte(k));
        }
        return text.toString();
    }

    /** All that can be asked of the state, in one text, for telling whether anything changed. */
    static String all(OrderAssembler x) {
        StringBuilder told = new StringBuilder();
        for (int what = 0; what < 5; what++) {
            told.append(x.count(what)).append(',').append(x.total(what)).append(' ');
        }
        told.append(x.day()).append(' ').append(x.undoDepth());
        for (int part = 0; part < x.count(0); part++) {
            told.append("|p").append(x.stock(part)).append(',').append(x.reserved(part)).append(',')
                .append(x.arriving(part)).append(',').append(x.nextArrival(part)).append(',')
                .append(x.usedBy(part)).append(',').append(x.toBuy(part));
        }
        for (int product = 0; product < x.count(1); product++) {
            told.append("|q").append(x.pieces(product)).append(',').append(x.level(product)).append(',')
                .append(x.buildable(product)).append(',').append(x.promise(product, 50));
        }
        for (int order = 0; order < x.count(2); order++) {
            told.append("|o").append(x.stateOf(order)).append(',').append(x.openUnits(order)).append(',')
                .append(x.reservedUnits(order)).append(',').append(x.shippedUnits(order));
            for (int what = 0; what < 5; what++) {
                told.append(',').append(x.orderField(order, what));
            }
        }
        for (int ago = 0; ago < 17; ago++) {
            told.append("|s").append(x.shipment(ago, 0)).append(',').append(x.shipment(ago, 1))
                .append(',').append(x.shipment(ago, 2));
        }
        return told.toString();
    }
}
