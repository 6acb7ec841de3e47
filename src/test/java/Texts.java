/** Texts at the limits of the document, and loading right and wrong ones. */
final class Texts {
    static final String SMALL = "part a 1 1;part b 2 2;product p 1 a;";

    private Texts() { }

    /** So many parts, a, b, c and so on, each with 1 piece and a lead time of 1 day. */
    static String parts(int count) {
        StringBuilder text = new StringBuilder();
        for (int part = 0; part < count; part++) {
            text.append("part ").append((char) ('a' + part)).append(" 1 1;");
        }
        return text.toString();
    }

    /** So many products, p, q, r and so on, each of 1 piece of the part a. */
    static String products(int count) {
        StringBuilder text = new StringBuilder();
        for (int product = 0; product < count; product++) {
            text.append("product ").append((char) ('p' + product)).append(" 1 a;");
        }
        return text.toString();
    }

    static String rungs(int count) {
        return "rung 0 9 100;".repeat(count);
    }

    static String orders(int count) {
        return "order p 1 1 1;".repeat(count);
    }

    /** As many parts, products, rungs and orders as there can be. */
    static String full() {
        return parts(12) + products(8) + rungs(6) + orders(20);
    }

    /** A text that is right, with so many products. */
    static void right(String text, int products) {
        OrderAssembler x = new OrderAssembler();
        Check.enter(x, text);
        int answer;
        try {
            answer = x.load();
        } catch (IllegalArgumentException wrong) {
            answer = OrderAssembler.NONE;
        }
        Check.due("load of \"" + text + "\"", answer, products);
        Check.none("errorOffset after \"" + text + "\"", x.errorOffset());
        Check.due("errorKind after \"" + text + "\"", x.errorKind(), 0);
    }

    static void error(String text, int offset, int kind) {
        OrderAssembler x = new OrderAssembler();
        Check.enter(x, text);
        Check.badArgument("load of \"" + text + "\"", x::load);
        Check.due("errorOffset after \"" + text + "\"", x.errorOffset(), offset);
        Check.due("errorKind after \"" + text + "\"", x.errorKind(), kind);
    }

    /** The error stands where the mark ^ stands in the text. */
    static void errorAt(String marked, int kind) {
        error(marked.replace("^", ""), marked.indexOf('^'), kind);
    }

    static void syntax(String marked) {
        errorAt(marked, OrderAssembler.SYNTAX);
    }

    static void badNumber(String marked) {
        errorAt(marked, OrderAssembler.BAD_NUMBER);
    }

    static void badName(String marked) {
        errorAt(marked, OrderAssembler.BAD_NAME);
    }

    static void tooMany(String marked) {
        errorAt(marked, OrderAssembler.TOO_MANY);
    }

    static void tooMuch(String marked) {
        errorAt(marked, OrderAssembler.TOO_MUCH);
    }
}
