import java.nio.charset.StandardCharsets;
import java.util.Arrays;

/** What the tests have in common: entering texts, and comparing answers with those that are due. */
final class Check {
    static final String FURNITURE = "part leg 40 5;part top 9 8;part bolt 100 2;"
        + "product kit 4 bolt 2 leg;product table 2 kit 1 top;product stool 3 leg 2 bolt;"
        + "rung 5 9 50;rung 0 9 100;"
        + "order table 3 7 10;order stool 6 2 5;order stool 2 9 12 whole;";
    static final int LEG = 0;
    static final int TOP = 1;
    static final int BOLT = 2;
    static final int KIT = 0;
    static final int TABLE = 1;
    static final int STOOL = 2;

    /** Numbers that are out of every range. */
    static final int[] FAR_OUT = {Integer.MIN_VALUE, -1000, 1000000, Integer.MAX_VALUE};

    private static int checks = 0;
    private static int wrong = 0;
    private static String sentence = "";

    private Check() { }

    interface Call {
        long answer();
    }

    /** The sentence of the document that the next checks are about; it is told with each wrong answer. */
    static void says(String words) {
        sentence = words;
    }

    /** Runs one test; an exception that none was due in is a wrong answer, and the next test still runs. */
    static void run(Runnable test) {
        sentence = "";
        try {
            test.run();
        } catch (RuntimeException exception) {
            checks++;
            tell("a call, at " + exception.getStackTrace()[0] + ",", exception, "an answer");
        }
    }

    private static void tell(String what, Object got, Object want) {
        wrong++;
        System.out.println(what + " answered " + got + ", due is " + want);
        if (!sentence.isEmpty()) {
            System.out.println("    the document says: " + sentence);
        }
    }

    static void due(String what, long got, long want) {
        checks++;
        if (got != want) {
            tell(what, got, want);
        }
    }

    static void due(String what, String got, String want) {
        checks++;
        if (!got.equals(want)) {
            tell(what, '"' + got + '"', '"' + want + '"');
        }
    }

    static void none(String what, long got) {
        due(what, got, OrderAssembler.NONE);
    }

    static void yes(String what, boolean got) {
        due(what, got ? 1 : 0, 1);
    }

    static void no(String what, boolean got) {
        due(what, got ? 1 : 0, 0);
    }

    static void outside(String what, Call call) {
        thrown(what, call, IndexOutOfBoundsException.class);
    }

    static void badArgument(String what, Call call) {
        thrown(what, call, IllegalArgumentException.class);
    }

    static void badState(String what, Call call) {
        thrown(what, call, IllegalStateException.class);
    }

    private static void thrown(String what, Call call, Class<?> kind) {
        checks++;
        Object got;
        try {
            got = call.answer();
        } catch (RuntimeException exception) {
            got = exception.getClass();
        }
        if (got != kind) {
            tell(what, got, kind);
        }
    }

    /** A call that must throw this and leave everything as it is. */
    static void refused(OrderAssembler x, String what, Class<?> kind, Call call) {
        String before = everything(x);
        thrown(what, call, kind);
        due("everything after the refused " + what, everything(x), before);
    }

    static void end() {
        System.out.println(checks + " checks, " + wrong + " wrong");
        System.exit(wrong == 0 && checks > 0 ? 0 : 1);
    }

    /** Fills the input buffer with just this text. */
    static void enter(OrderAssembler x, String text) {
        x.truncate(0);
        byte[] bytes = text.getBytes(StandardCharsets.ISO_8859_1);
        for (int start = 0; start < bytes.length; start += 20) {
            byte[] b = Arrays.copyOfRange(bytes, start, start + 20);
            x.append(word(b, 0), word(b, 4), word(b, 8), word(b, 12), word(b, 16));
        }
        x.truncate(bytes.length);
    }

    private static int word(byte[] b, int at) {
        return (b[at] & 255) << 24 | (b[at + 1] & 255) << 16 | (b[at + 2] & 255) << 8 | b[at + 3] & 255;
    }

    static OrderAssembler loaded(String text) {
        OrderAssembler x = new OrderAssembler();
        enter(x, text);
        x.load();
        return x;
    }

    /** The formatted text, byte by byte up to the first NONE. */
    static String formatted(OrderAssembler x) {
        StringBuilder text = new StringBuilder();
        for (int k = 0; x.formattedByte(k) != OrderAssembler.NONE; k++) {
            text.append((char) x.formattedByte(k));
        }
        return text.toString();
    }

    /** The length of the input buffer: the greatest one to which it can be shortened. */
    static int bufferLength(OrderAssembler x) {
        for (int length = 900; length > 0; length--) {
            if (x.truncate(length)) {
                return length;
            }
        }
        return 0;
    }

    /** The state, and what undoing leaves alone: the bills, the trials, the error, the texts. */
    static String everything(OrderAssembler x) {
        StringBuilder told = new StringBuilder(all(x));
        told.append('#').append(bufferLength(x)).append(',').append(x.errorOffset()).append(',')
            .append(x.errorKind()).append(',').append(formatted(x));
        for (int product = 0; product < x.count(1); product++) {
            told.append("|q").append(x.lineCount(product)).append(',').append(x.bottleneck(product));
            for (int line = 0; line < 6; line++) {
                told.append(',').append(x.lineItem(product, line)).append(',').append(x.lineQuantity(product, line));
            }
            for (int part = 0; part < x.count(0); part++) {
                told.append(',').append(x.need(product, part));
            }
        }
        for (int order = 0; order < x.count(2); order++) {
            told.append("|o").append(x.promiseOf(order)).append(',').append(x.delayingPart(order)).append(',')
                .append(x.wouldGet(order)).append(',').append(x.rungOf(order)).append(',')
                .append(x.missingPieces(order));
        }
        for (int rung = 0; rung < x.count(3); rung++) {
            told.append("|r").append(x.rungUnits(rung));
        }
        return told.append('|').append(x.scarcestPart()).append(',').append(x.lateOrders()).append(',')
            .append(x.coveredOrders()).append(',').append(x.promiseOfAll()).toString();
    }

    /** All that can be asked of the state, in one text, for telling whether anything changed. */
    static String all(OrderAssembler x) {
        StringBuilder told = new StringBuilder();
        for (int what = 0; what < 5; what++) {
            told.append(x.count(what)).append(',').append(x.total(what)).append(' ');
        }
        told.append(x.day()).append(' ').append(x.undoDepth());
        for (int part = 0; part < x.count(0); part++) {
            told.append("|p").append(x.stock(part)).append(',').append(x.reserved(part)).append(',')
                .append(x.arriving(part)).append(',').append(x.nextArrival(part)).append(',')
                .append(x.usedBy(part)).append(',').append(x.toBuy(part));
        }
        for (int product = 0; product < x.count(1); product++) {
            told.append("|q").append(x.pieces(product)).append(',').append(x.level(product)).append(',')
                .append(x.buildable(product)).append(',').append(x.promise(product, 50));
        }
        for (int order = 0; order < x.count(2); order++) {
            told.append("|o").append(x.stateOf(order)).append(',').append(x.openUnits(order)).append(',')
                .append(x.reservedUnits(order)).append(',').append(x.shippedUnits(order));
            for (int what = 0; what < 5; what++) {
                told.append(',').append(x.orderField(order, what));
            }
        }
        for (int ago = 0; ago < 17; ago++) {
            told.append("|s").append(x.shipment(ago, 0)).append(',').append(x.shipment(ago, 1))
                .append(',').append(x.shipment(ago, 2));
        }
        return told.toString();
    }
}
