/** The boundary cases of the buffer, the text and its errors (promises 1 to 6): a method for each sentence. */
public final class TextBoundaryTest {
    private static final int SPACES = 0x20202020;

    private TextBoundaryTest() { }

    public static void main(String[] args) {
        Check.run(TextBoundaryTest::newObject);
        Check.run(TextBoundaryTest::bufferOf900Bytes);
        Check.run(TextBoundaryTest::bytesOfEachWord);
        Check.run(TextBoundaryTest::appendToAFullBuffer);
        Check.run(TextBoundaryTest::truncateRange);
        Check.run(TextBoundaryTest::textOf900Bytes);
        Check.run(TextBoundaryTest::noLinesOrMany);
        Check.run(TextBoundaryTest::repeatedAndOptional);
        Check.run(TextBoundaryTest::words);
        Check.run(TextBoundaryTest::names);
        Check.run(TextBoundaryTest::keywordsAsNames);
        Check.run(TextBoundaryTest::numbers);
        Check.run(TextBoundaryTest::whiteSpace);
        Check.run(TextBoundaryTest::partNumbers);
        Check.run(TextBoundaryTest::rungClasses);
        Check.run(TextBoundaryTest::rungShares);
        Check.run(TextBoundaryTest::orderNumbers);
        Check.run(TextBoundaryTest::lineQuantities);
        Check.run(TextBoundaryTest::earlierProducts);
        Check.run(TextBoundaryTest::wrongWordsAtTheirFirstByte);
        Check.run(TextBoundaryTest::endsTooEarly);
        Check.run(TextBoundaryTest::tooManyLines);
        Check.run(TextBoundaryTest::tooManyBillLines);
        Check.run(TextBoundaryTest::usedNames);
        Check.run(TextBoundaryTest::unknownItems);
        Check.run(TextBoundaryTest::repeatedItems);
        Check.run(TextBoundaryTest::namesOfOrders);
        Check.run(TextBoundaryTest::tooManyDigits);
        Check.run(TextBoundaryTest::tooMuch);
        Check.run(TextBoundaryTest::everythingElse);
        Check.run(TextBoundaryTest::loadStartsAnew);
        Check.run(TextBoundaryTest::loadAgainAndAgain);
        Check.run(TextBoundaryTest::bufferAfterLoad);
        Check.run(TextBoundaryTest::formattedTextAfterLoad);
        Check.run(TextBoundaryTest::wrongTextLeavesEverything);
        Check.run(TextBoundaryTest::latestErrorOffset);
        Check.run(TextBoundaryTest::latestErrorKind);
        Check.end();
    }

    private static void newObject() {
        Check.says("Creates a system without parts, products and orders, with the one rung that a text without "
            + "rungs has, and with an empty buffer.");
        OrderAssembler x = new OrderAssembler();
        Check.due("the parts", x.count(0), 0);
        Check.due("the products", x.count(1), 0);
        Check.due("the orders", x.count(2), 0);
        Check.due("the rungs", x.count(3), 1);
        Check.due("the arrivals", x.count(4), 0);
        Check.due("the buffer", Check.bufferLength(x), 0);
        Check.due("the state", Check.everything(x), Check.everything(Check.loaded("")));
        Check.due("allocate() of no orders", x.allocate(), 0);
        Check.due("advance() without arrivals", x.advance(100), 0);
        Check.due("undo() of both", x.undo() + x.undo(), 1);
        Check.due("the state after undoing", Check.everything(x), Check.everything(new OrderAssembler()));
    }

    private static OrderAssembler filled(int length) {
        OrderAssembler x = new OrderAssembler();
        for (int k = 0; k < 45; k++) {
            x.append(SPACES, SPACES, SPACES, SPACES, SPACES);
        }
        x.truncate(length);
        return x;
    }

    private static void bufferOf900Bytes() {
        Check.says("Returns the new length of the buffer; NONE, and nothing is appended, if the buffer would "
            + "exceed 900 bytes.");
        OrderAssembler x = new OrderAssembler();
        for (int k = 1; k <= 45; k++) {
            Check.due("append " + k, x.append(SPACES, SPACES, SPACES, SPACES, SPACES), 20 * k);
        }
        for (int length = 870; length <= 880; length++) {
            Check.due("append to " + length, filled(length).append(SPACES, SPACES, SPACES, SPACES, SPACES), length + 20);
        }
        for (int length = 881; length <= 900; length++) {
            OrderAssembler y = filled(length);
            Check.none("append to " + length, y.append(0x78787878, 0x78787878, 0x78787878, 0x78787878, 0x78787878));
            Check.due("the buffer of " + length, Check.bufferLength(y), length);
            Check.due("load of " + length + " spaces", y.load(), 0);
        }
    }

    private static void bytesOfEachWord() {
        Check.says("Appends 20 bytes to the input buffer: the four bytes of each parameter in turn, the most "
            + "significant byte first.");
        OrderAssembler x = new OrderAssembler();
        Check.due("append", x.append(0x70617274, 0x20616263, 0x64656667, 0x68203132, 0x2033343b), 20);
        Check.due("load of part abcdefgh 12 34;", x.load(), 0);
        Check.due("the stock", x.stock(0), 12);
        Check.due("the lead time", x.buy(0, 1), 34);
        // A sign that fits nowhere, at each of the 20 places: its place is the error's.
        for (int place = 0; place < 20; place++) {
            int[] w = {SPACES, SPACES, SPACES, SPACES, SPACES};
            int shift = 24 - 8 * (place % 4);
            for (int sign : new int[] {0x00, 0x7f, 0x80, 0xff}) {
                w[place / 4] = SPACES & ~(255 << shift) | sign << shift;
                x.append(w[0], w[1], w[2], w[3], w[4]);
                Check.badArgument("load with sign " + sign + " at " + place, x::load);
                Check.due("errorOffset() with sign " + sign + " at " + place, x.errorOffset(), place);
            }
        }
    }

    private static void appendToAFullBuffer() {
        Check.says("NONE, and nothing is appended");
        OrderAssembler x = new OrderAssembler();
        Check.enter(x, Texts.SMALL + " ".repeat(900 - Texts.SMALL.length()));
        Check.none("append to a full buffer", x.append(-1, -1, -1, -1, -1));
        Check.none("append to a full buffer again", x.append(0, 0, 0, 0, 0));
        Check.yes("truncate to what stood there", x.truncate(881));
        Check.none("append to 881 bytes", x.append(-1, -1, -1, -1, -1));
        Check.due("the length", Check.bufferLength(x), 881);
        Check.due("load of what stood there", x.load(), 1);
        Check.due("append after load", x.append(SPACES, SPACES, SPACES, SPACES, SPACES), 20);
    }

    private static void truncateRange() {
        Check.says("Returns true if the length was 0 to the current length; false, and nothing changes, otherwise.");
        OrderAssembler x = new OrderAssembler();
        Check.no("truncate(1) of an empty buffer", x.truncate(1));
        Check.no("truncate(-1) of an empty buffer", x.truncate(-1));
        Check.yes("truncate(0) of an empty buffer", x.truncate(0));
        x.append(SPACES, SPACES, SPACES, SPACES, SPACES);
        for (int length : new int[] {21, 40, 900, 901, -1, -20, Integer.MIN_VALUE, Integer.MAX_VALUE}) {
            Check.no("truncate(" + length + ") of 20 bytes", x.truncate(length));
            Check.due("the length after truncate(" + length + ")", Check.bufferLength(x), 20);
        }
        Check.yes("truncate(20) of 20 bytes", x.truncate(20));
        Check.due("the length after truncate(20)", Check.bufferLength(x), 20);
        Check.yes("truncate(19) of 20 bytes", x.truncate(19));
        Check.no("truncate(20) of 19 bytes", x.truncate(20));
        Check.yes("truncate(0) of 19 bytes", x.truncate(0));
        Check.no("truncate(1) of 0 bytes", x.truncate(1));
        OrderAssembler y = filled(900);
        Check.no("truncate(901) of 900 bytes", y.truncate(901));
        Check.yes("truncate(900) of 900 bytes", y.truncate(900));
        Check.yes("truncate(899) of 900 bytes", y.truncate(899));
    }

    private static void textOf900Bytes() {
        Check.says("The text has at most 900 bytes.");
        String text = Texts.full();
        String padded = " ".repeat(900 - text.length()) + text;
        Texts.right(padded, 8);
        OrderAssembler x = Check.loaded(padded);
        Check.due("the orders of 900 bytes", x.count(2), 20);
        Check.due("the last order of 900 bytes", x.orderField(19, 3), 1);
        Texts.error(padded.substring(0, 899), 899, OrderAssembler.SYNTAX);
        Texts.error(padded.substring(0, 899) + ":", 899, OrderAssembler.SYNTAX);
        Texts.error(padded.substring(1) + ";", 899, OrderAssembler.SYNTAX);
        Texts.error(" ".repeat(895) + "order", 900, OrderAssembler.SYNTAX);
        Texts.error("p".repeat(900), 0, OrderAssembler.SYNTAX);
        Texts.error("rung " + "1".repeat(895), 5, OrderAssembler.BAD_NUMBER);
        Texts.right("\n".repeat(900), 0);
    }

    private static void noLinesOrMany() {
        Check.says("text = { line \";\" }.");
        Texts.right("", 0);
        Texts.right(" ", 0);
        Texts.right("rung 0 9 100;", 0);
        Texts.right(Texts.full(), 8);
        Texts.syntax("^;");
        Texts.syntax(Texts.SMALL + "^;");
        Texts.syntax("rung 0 9 100^");
        Texts.syntax("rung 0 9 100 ^rung 0 9 100;");
    }

    private static void repeatedAndOptional() {
        Check.says("where { x } means zero or more and [ x ] means zero or one");
        String parts = Texts.parts(6);
        Texts.right(parts + "product p 1 a;", 1);
        Texts.right(parts + "product p 1 a 1 b;", 1);
        Texts.right(parts + "product p 1 a 1 b 1 c 1 d 1 e 1 f;", 1);
        Texts.syntax(parts + "product p ^;");
        Texts.syntax(parts + "product p 1 a 1 ^;");
        Texts.right(Texts.SMALL + "order p 1 1 1;", 1);
        Texts.right(Texts.SMALL + "order p 1 1 1 whole;", 1);
        Texts.syntax(Texts.SMALL + "order p 1 1 1 whole ^whole;");
        Check.due("not whole", Check.loaded(Texts.SMALL + "order p 1 1 1;").orderField(0, 4), 0);
        Check.due("whole", Check.loaded(Texts.SMALL + "order p 1 1 1 whole;").orderField(0, 4), 1);
    }

    private static void words() {
        Check.says("A word is a longest run of letters a to z");
        Texts.right("part a 1 1;part z 1 1;part az 1 1;part za 1 1;", 0);
        Texts.syntax("part a^` 1 1;");
        Texts.syntax("part z^{ 1 1;");
        Texts.syntax("part a^A 1 1;");
        Texts.syntax("part ^A 1 1;");
        Texts.syntax("part ^Z 1 1;");
        Texts.syntax("part a^_ 1 1;");
        Texts.syntax("^parta 1 1;");
        Texts.syntax("part a ^part b 1 1;");
        Texts.error("part " + (char) ('a' + 128) + " 1 1;", 5, OrderAssembler.SYNTAX);
        Texts.error("part a" + (char) ('a' + 128) + " 1 1;", 6, OrderAssembler.SYNTAX);
    }

    private static void names() {
        Check.says("a name is a word of 1 to 8 letters");
        Texts.right("part a 1 1;part abcdefgh 1 1;product zyxwvuts 1 abcdefgh 2 a;order zyxwvuts 1 1 1;", 1);
        Texts.syntax("part ^abcdefghi 1 1;");
        Texts.syntax(Texts.SMALL + "product ^abcdefghi 1 a;");
        Texts.syntax(Texts.SMALL + "product q 1 ^abcdefghi;");
        Texts.syntax(Texts.SMALL + "order ^abcdefghi 1 1 1;");
        Texts.syntax("part ^" + "a".repeat(16) + " 1 1;");
        Texts.syntax("part ^1 1;");
        Texts.right("part aaaaaaaa 1 1;part aaaaaaa 1 1;part aaaaaaab 1 1;part baaaaaaa 1 1;", 0);
        OrderAssembler x = Check.loaded("part a 1 1;part abcdefgh 1 1;product zyxwvuts 1 abcdefgh 2 a;");
        x.formatNeeds(0);
        Check.due("names of 8 letters", Check.formatted(x), "zyxwvuts: 2a 1abcdefgh");
    }

    private static void keywordsAsNames() {
        Check.says("a keyword can be a name, too");
        Texts.right("part part 1 1;product product 1 part;product rung 1 product 1 part;order rung 1 1 1;", 2);
        Texts.right("part rung 1 1;part order 1 1;part whole 1 1;part product 1 1;product part 1 rung 1 order 1 "
            + "whole 1 product;order part 1 1 1 whole;", 1);
        Texts.right("part a 1 1;product whole 1 a;order whole 1 1 1;order whole 1 1 1 whole;", 1);
        Texts.right("part a 1 1;product order 1 a;order order 1 1 1;", 1);
    }

    private static void numbers() {
        Check.says("A number is a longest run of digits; it has 1 to 4 digits.");
        Texts.right("part a 0 1;part b 00 01;part c 000 001;part d 0000 0001;part e 9999 0060;", 0);
        Texts.right("rung 0000 0009 0100;" + Texts.SMALL + "product q 0020 b;order q 0099 0009 0999;", 2);
        Check.due("the stock 0012", Check.loaded("part a 0012 1;").stock(0), 12);
        Check.due("the stock 9999", Check.loaded("part a 9999 1;").stock(0), 9999);
        Check.due("the stock 1090", Check.loaded("part a 1090 1;").stock(0), 1090);
        Texts.badNumber("part a ^00000 1;");
        Texts.badNumber("part a ^00001 1;");
        Texts.syntax("part a 1^/ 1;");
        Texts.syntax("part a 1^: 1;");
        Texts.syntax("part a ^+1 1;");
        Texts.syntax("part a ^-1 1;");
        Texts.syntax("part a 1^.5 1;");
        Texts.syntax("part a 1^,1;");
        Texts.syntax("part a 11^;");
        Texts.error("part a " + (char) ('1' + 128) + " 1;", 7, OrderAssembler.SYNTAX);
    }

    private static void whiteSpace() {
        Check.says("Spaces, tabs and line feeds (bytes 32, 9 and 10) may stand before the first token, between any "
            + "two tokens, and behind the last one.");
        String[] tokens = {"", "part", "a", "1", "1", ";", "product", "p", "1", "a", ";", "rung", "0", "9", "9", ";",
            "order", "p", "1", "1", "1", "whole", ";", ""};
        for (String space : new String[] {" ", "\t", "\n", " \t\n", "\n\n  \t\t"}) {
            Texts.right(String.join(space, tokens), 1);
        }
        // Each other byte, at each place where white space may stand.
        for (int sign = 0; sign < 256; sign++) {
            boolean token = sign >= 'a' && sign <= 'z' || sign >= '0' && sign <= '9' || sign == ';';
            for (int place = 1; !token && sign != 32 && sign != 9 && sign != 10 && place < tokens.length; place++) {
                StringBuilder text = new StringBuilder();
                for (int earlier = 0; earlier < place; earlier++) {
                    text.append(tokens[earlier]).append(' ');
                }
                Texts.error(text.toString() + (char) sign, text.length(), OrderAssembler.SYNTAX);
            }
        }
        Check.says("between any two tokens (it need not stand there)");
        Texts.right("part a1 1;product p1a;rung 0 9 9;order p1 1 1whole;", 1);
    }

    private static void partNumbers() {
        Check.says("\"part\" adds a part with its name, its stock (0 to 9999), and its lead time (1 to 60).");
        OrderAssembler x = Check.loaded("part a 0 1;part b 9999 60;");
        Check.due("the least stock", x.stock(0), 0);
        Check.due("the greatest stock", x.stock(1), 9999);
        Check.due("the least lead time", x.buy(0, 1), 1);
        Check.due("the greatest lead time", x.buy(1, 1), 60);
        Texts.badNumber("part a ^10000 1;");
        Texts.badNumber("part a 1 ^0;");
        Texts.badNumber("part a 1 ^61;");
        Texts.badNumber("part a 1 ^9999;");
    }

    private static void rungClasses() {
        Check.says("\"rung\" adds a rung with its lowest class (0 to 9), its highest class (its lowest class to 9), "
            + "and its share.");
        Texts.right("rung 0 0 1;rung 0 9 100;rung 9 9 100;rung 5 5 1;", 0);
        Texts.badNumber("rung ^10 10 1;");
        Texts.badNumber("rung 0 ^10 1;");
        Texts.badNumber("rung 9 ^8 1;");
        Texts.badNumber("rung 1 ^0 1;");
        Texts.badNumber("rung 9 ^10 1;");
        for (int low = 0; low <= 9; low++) {
            for (int high = 0; high <= 9; high++) {
                if (high >= low) {
                    Texts.right("rung " + low + " " + high + " 100;", 0);
                } else {
                    Texts.badNumber("rung " + low + " ^" + high + " 100;");
                }
            }
        }
    }

    private static void rungShares() {
        Check.says("a share (1 to 100 percent)");
        Texts.badNumber("rung 0 0 ^0;");
        Texts.badNumber("rung 0 0 ^101;");
        Texts.badNumber("rung 0 0 ^9999;");
        Texts.right("rung 0 0 1;rung 0 0 99;rung 0 0 100;", 0);
    }

    private static void orderNumbers() {
        Check.says("An order has a product, a quantity (1 to 99 units), a class (0 to 9), a due day (0 to 999), and "
            + "is whole or not.");
        OrderAssembler x = Check.loaded(Texts.SMALL + "order p 1 0 0;order p 99 9 999 whole;");
        int[][] fields = {{0, 1, 0, 0, 0}, {0, 99, 9, 999, 1}};
        for (int order = 0; order < 2; order++) {
            for (int what = 0; what < 5; what++) {
                Check.due("orderField(" + order + ", " + what + ")", x.orderField(order, what), fields[order][what]);
            }
        }
        Texts.badNumber(Texts.SMALL + "order p ^0 1 1;");
        Texts.badNumber(Texts.SMALL + "order p ^100 1 1;");
        Texts.badNumber(Texts.SMALL + "order p 1 ^10 1;");
        Texts.badNumber(Texts.SMALL + "order p 1 1 ^1000;");
        Texts.badNumber(Texts.SMALL + "order p 1 1 ^1000 whole;");
    }

    private static void lineQuantities() {
        Check.says("how many of it are built into one unit of the product (1 to 20)");
        OrderAssembler x = Check.loaded(Texts.SMALL + "product q 1 a 20 b 20 p;");
        Check.due("the least quantity", x.lineQuantity(1, 0), 1);
        Check.due("the greatest quantity of a part", x.lineQuantity(1, 1), 20);
        Check.due("the greatest quantity of a product", x.lineQuantity(1, 2), 20);
        Texts.badNumber(Texts.SMALL + "product q ^0 a;");
        Texts.badNumber(Texts.SMALL + "product q ^21 a;");
        Texts.badNumber(Texts.SMALL + "product q 1 a ^0 b;");
        Texts.badNumber(Texts.SMALL + "product q 1 a ^21 p;");
    }

    private static void earlierProducts() {
        Check.says("\"order\" adds an order with the name of its product (of an earlier line)");
        Texts.right(Texts.SMALL + "order p 1 1 1;product q 1 p;order q 1 1 1;", 2);
        Texts.badName("part a 1 1;order ^p 1 1 1;product p 1 a;");
        Texts.badName("order ^p 1 1 1;");
    }

    private static void wrongWordsAtTheirFirstByte() {
        Check.says("The error offset is the offset of the first byte at which no correct text can go on; a wrong "
            + "word or number counts at its first byte");
        Texts.syntax("^pert a 1 1;");
        Texts.syntax("^xart a 1 1;");
        Texts.syntax("^parx a 1 1;");
        Texts.syntax("^xroduct p 1 a;");
        Texts.syntax("^producs p 1 a;");
        Texts.syntax("^xung 0 9 1;");
        Texts.syntax("^runs 0 9 1;");
        Texts.syntax(Texts.SMALL + "^xrder p 1 1 1;");
        Texts.syntax(Texts.SMALL + "^ordex p 1 1 1;");
        Texts.syntax(Texts.SMALL + "order p 1 1 1 ^xhole;");
        Texts.syntax(Texts.SMALL + "order p 1 1 1 ^wholx;");
        Texts.syntax("  ^parts a 1 1;");
        Texts.syntax("^par");
        Texts.syntax("part ^abcdefghi");
        Texts.badNumber("part a ^12345");
        Texts.badNumber("part a 12 ^61");
        Texts.badName(Texts.SMALL + "product q 1 ^ab;");
        Texts.badName(Texts.SMALL + "product q 1 ^ab");
        Texts.syntax(Texts.SMALL + "order p 1 1 1 ^wholly;");
        Texts.syntax(Texts.SMALL + "order p 1 1 1 ^whol");
        Texts.syntax("part a 1 1 \n\t ^b;");
        Texts.syntax("part a 1 1^!b;");
        Texts.syntax("^#");
        Check.says("no correct text can go on (the first of several errors counts)");
        Texts.badNumber("part a ^10000 61;rung 0 10 1;xyz");
        Texts.badName("part a 1 1;part ^a 10000 61;");
        Texts.syntax("part a 1 1 ^part a 1 1;");
    }

    private static void endsTooEarly() {
        Check.says("if the text ends too early, it is the length of the text");
        String[] tokens = {"part", "a", "1", "1", ";", "product", "p", "1", "a", "2", "b", ";", "rung", "0", "9", "9",
            ";", "order", "p", "1", "1", "1", "whole", ";"};
        StringBuilder text = new StringBuilder("part b 1 1;");
        for (String token : tokens) {
            text.append(token);
            for (String space : new String[] {"", " ", "\n\t "}) {
                String cut = text + space;
                if (token.equals(";")) {
                    Texts.right(cut, cut.contains("product") ? 1 : 0);
                } else {
                    Texts.error(cut, cut.length(), OrderAssembler.SYNTAX);
                }
            }
            text.append(' ');
        }
    }

    private static void tooManyLines() {
        Check.says("TOO_MANY: a 13th part, a 9th product, a 7th rung or a 21st order, at the first word of the line");
        Texts.right(Texts.parts(12), 0);
        Texts.tooMany(Texts.parts(12) + "^part m 1 1;");
        Texts.tooMany(Texts.parts(12) + " \n^part");
        Texts.tooMany(Texts.parts(12) + "^part a 10000 0;");
        Texts.right(Texts.parts(1) + Texts.products(8), 8);
        Texts.tooMany(Texts.parts(1) + Texts.products(8) + "^product x 1 a;");
        Texts.tooMany(Texts.parts(1) + Texts.products(8) + "\t^product");
        Texts.tooMany(Texts.parts(1) + Texts.products(8) + "^product p;");
        Texts.right(Texts.rungs(6), 0);
        Texts.tooMany(Texts.rungs(6) + "^rung 0 9 100;");
        Texts.tooMany(Texts.rungs(6) + "^rung");
        Texts.tooMany(Texts.rungs(6) + "^rung 10;");
        Texts.right(Texts.SMALL + Texts.orders(20), 1);
        Texts.tooMany(Texts.SMALL + Texts.orders(20) + "^order p 1 1 1;");
        Texts.tooMany(Texts.SMALL + Texts.orders(20) + "^order");
        Texts.tooMany(Texts.SMALL + Texts.orders(20) + "^order x;");
        Texts.syntax(Texts.full() + "^partly");
        Texts.tooMany(Texts.full() + "^part");
        Texts.tooMany(Texts.full() + "^product");
        Texts.tooMany(Texts.full() + "^rung");
        Texts.tooMany(Texts.full() + "^order");
    }

    private static void tooManyBillLines() {
        Check.says("a 7th line of a product, at its quantity");
        String six = Texts.parts(7) + "product p 1 a 1 b 1 c 1 d 1 e 1 f";
        Texts.right(six + ";", 1);
        Texts.tooMany(six + " ^1 g;");
        Texts.tooMany(six + "\n^1");
        Texts.tooMany(six + " ^1 a;");
        Texts.tooMany(six + " ^1 x;");
        Texts.tooMany(six + ";product q 1 p 2 a 3 b 4 c 5 d 6 e ^7 f;");
        Texts.right(six + ";product q 1 p 2 a 3 b 4 c 5 d 6 e;", 2);
        Texts.syntax(six + " ^g;");
        Texts.syntax(six + "^");
    }

    private static void usedNames() {
        Check.says("BAD_NAME: a name of a part or product that a part or product has already");
        Texts.badName("part a 1 1;part ^a 1 1;");
        Texts.badName(Texts.SMALL + "part ^p 1 1;");
        Texts.badName(Texts.SMALL + "product ^a 1 a;");
        Texts.badName(Texts.SMALL + "product ^b 1 a;");
        Texts.badName(Texts.SMALL + "product ^p 1 a;");
        Texts.badName(Texts.parts(11) + "part ^k 1 1;");
        Texts.badName(Texts.parts(1) + Texts.products(7) + "product ^v 1 a;");
        Texts.badName("part abcdefgh 1 1;part ^abcdefgh 1 1;");
        Texts.right("part abcdefgh 1 1;part abcdefg 1 1;part bcdefgh 1 1;part abcdefgi 1 1;", 0);
        Texts.right("part a 1 1;part aa 1 1;product aaa 1 a;product aaaa 1 aa;", 2);
    }

    private static void unknownItems() {
        Check.says("a name of an item that is not a part or product of an earlier line");
        Texts.badName("product p 1 ^a;");
        Texts.badName("product p 1 ^a;part a 1 1;");
        Texts.badName(Texts.SMALL + "product q 1 ^r;product r 1 a;");
        Texts.badName(Texts.SMALL + "product q 1 ^q;");
        Texts.badName(Texts.SMALL + "product q 1 a 1 ^q;");
        Texts.badName(Texts.SMALL + "product q 1 a 1 p 1 ^c;");
        Texts.right(Texts.SMALL + "product q 1 p 1 b 1 a;", 2);
    }

    private static void repeatedItems() {
        Check.says("or that stands in the bill already");
        Texts.badName(Texts.SMALL + "product q 1 a 1 ^a;");
        Texts.badName(Texts.SMALL + "product q 1 p 1 ^p;");
        Texts.badName(Texts.parts(5) + "product q 1 a 1 b 1 c 1 d 1 e 1 ^a;");
        Texts.badName(Texts.parts(5) + "product q 1 a 1 b 1 c 1 d 1 e 1 ^e;");
        // A part stands in another's bill, or twice by way of a product: both are right.
        Texts.right(Texts.SMALL + "product q 1 a 1 p;product r 1 a 1 q 1 p;", 3);
    }

    private static void namesOfOrders() {
        Check.says("a name of an order that is not that of a product");
        Texts.badName(Texts.SMALL + "order ^a 1 1 1;");
        Texts.badName(Texts.SMALL + "order ^q 1 1 1;");
        Texts.badName(Texts.SMALL + "order ^pp 1 1 1;");
        Texts.badName(Texts.SMALL + "order ^order 1 1 1;");
        Texts.right(Texts.parts(1) + Texts.products(8) + "order p 1 1 1;order w 1 1 1;", 8);
    }

    private static void tooManyDigits() {
        Check.says("BAD_NUMBER: a number with more than 4 digits or out of its range.");
        String[] rights = {"part c ", "part c 1 ", "product q ", "product q 1 a ", "rung ", "rung 0 ", "rung 0 9 ",
            "order p ", "order p 1 ", "order p 1 1 "};
        for (String before : rights) {
            for (String number : new String[] {"00001", "12345", "99999", "0000000000000001", "4294967297",
                "18446744073709551617"}) {
                Texts.badNumber(Texts.SMALL + before + "^" + number + ";");
            }
        }
        Texts.right("part c 9999 60;", 0);
        Texts.badNumber("part c 1 ^0000;");
    }

    private static void tooMuch() {
        Check.says("TOO_MUCH: the name of an item by which the need of the product for some part would be more than "
            + "9999.");
        String nested = "part a 1 1;part b 1 1;product p 20 a;product q 20 p;product r 20 q;";
        Check.due("a need of 9999", Check.loaded(nested + "product s 1 r 4 q 19 p 19 a;").need(3, 0), 9999);
        Texts.right(nested + "product s 1 r 4 q 19 p 19 a 20 b;", 4);
        Texts.tooMuch(nested + "product s 1 r 4 q 19 p 20 ^a;");
        Texts.tooMuch(nested + "product s 1 r 4 q 20 ^p;");
        Texts.tooMuch(nested + "product s 1 r 5 ^q;");
        Texts.tooMuch(nested + "product s 2 ^r;");
        Texts.tooMuch(nested + "product s 20 ^r;");
        Texts.tooMuch(nested + "product s 19 a 19 p 4 q 20 b 2 ^r;");
        Texts.tooMuch(nested + "product t 20 b;product u 20 t;product v 20 u;product s 1 a 2 ^v;");
        // The need for each part counts alone, not their sum.
        Texts.right(nested + "product t 20 b;product u 20 t;product v 20 u;product s 1 v 1 r;", 7);
        Texts.badName(nested + "product s 1 r 2 ^r;");
        Texts.badNumber(nested + "product s ^21 r;");
    }

    private static void everythingElse() {
        Check.says("SYNTAX: everything else.");
        Texts.syntax("^1");
        Texts.syntax("^12345");
        Texts.syntax("part ^1 1 1;");
        Texts.syntax("part ^12345 1 1;");
        Texts.syntax("part ^;");
        Texts.syntax("part a ^;");
        Texts.syntax("part a 1 ^;");
        Texts.syntax("part a 1 1 ^1;");
        Texts.syntax("part a 1 1 ^12345;");
        Texts.syntax("part a 1 1 ^whole;");
        Texts.syntax("product ^1");
        Texts.syntax(Texts.SMALL + "product q ^a 1;");
        Texts.syntax(Texts.SMALL + "product q 1 ^1 a;");
        Texts.syntax("rung ^;");
        Texts.syntax("rung 0 ^a;");
        Texts.syntax("rung 0 9 ^;");
        Texts.syntax("rung 0 9 100 ^100;");
        Texts.syntax("order ^1;");
        Texts.syntax("order ^;");
        Texts.syntax(Texts.SMALL + "order p ^;");
        Texts.syntax(Texts.SMALL + "order p 1 ^whole;");
        Texts.syntax(Texts.SMALL + "order p 1 1 ^p;");
        Texts.syntax(Texts.SMALL + "order p 1 1 1 ^1;");
        Texts.syntax(Texts.SMALL + "order p 1 1 1 ^p;");
        Texts.syntax("^whole;");
        Texts.syntax("^name;");
    }

    private static OrderAssembler used() {
        OrderAssembler x = Check.loaded(Check.FURNITURE);
        x.allocate();
        x.ship(0);
        x.buy(0, 9);
        x.buy(2, 99);
        x.advance(3);
        x.buy(1, 5);
        x.addOrder(0, 9, 9, 9, true);
        x.cancel(1);
        x.adjust(1, 77);
        x.formatOrder(1);
        return x;
    }

    private static void loadStartsAnew() {
        Check.says("replaces everything by it: the day is 0, there are no arrivals and no reserved units, all totals "
            + "are 0, the shipment log is empty, and no action can be undone.");
        for (String text : new String[] {"", Texts.SMALL, Check.FURNITURE, Texts.full()}) {
            OrderAssembler x = used();
            Check.enter(x, text);
            x.load();
            Check.due("the day", x.day(), 0);
            Check.due("the arrivals", x.count(4), 0);
            for (int part = 0; part < x.count(0); part++) {
                Check.due("reserved(" + part + ")", x.reserved(part), 0);
                Check.due("arriving(" + part + ")", x.arriving(part), 0);
            }
            for (int what = 0; what < 5; what++) {
                Check.due("total(" + what + ")", x.total(what), 0);
                Check.none("shipment(" + what + ", 0)", x.shipment(what, 0));
            }
            Check.due("undoDepth()", x.undoDepth(), 0);
            Check.none("undo()", x.undo());
            Check.due("the state", Check.all(x), Check.all(Check.loaded(text)));
        }
        Check.says("If the text has no rungs, there is one rung with the classes 0 to 9 and the share 100.");
        OrderAssembler y = used();
        Check.enter(y, "part a 10 1;product p 1 a;order p 5 0 0;order p 5 9 9;");
        y.load();
        Check.due("the rungs", y.count(3), 1);
        Check.due("the units of the one rung", y.rungUnits(0), 10);
        Check.due("class 0", y.wouldGet(0), 5);
        Check.due("class 9", y.wouldGet(1), 5);
    }

    private static void loadAgainAndAgain() {
        Check.says("Parses the input buffer as a text and replaces everything by it");
        String deep = "part a 90 9;part b 80 8;product p 1 a;product q 2 p 3 b;product r 4 q 5 p 6 a;rung 0 0 1;rung 1 9 100;"
            + "order p 9 1 5;order q 2 2 6 whole;order r 1 9 7;";
        String flat = "part z 50 7;part y 70 6;product k 1 z;product l 1 y;product m 1 z 1 y;order m 9 1 5;order l 9 2 6;"
            + "order k 9 9 7;";
        OrderAssembler x = new OrderAssembler();
        for (int time = 0; time < 8; time++) {
            String text = time % 4 == 3 ? "" : time % 3 == 0 ? deep : flat;
            // A wrong text in between leaves nothing behind for the next one, either.
            Check.enter(x, time % 2 == 0 ? deep + "order" : "part n 5 5;rung 1 1 1;product o 20 n 20");
            Check.badArgument("a wrong text before load " + time, x::load);
            Check.enter(x, text);
            x.load();
            Check.due("everything after load " + time, Check.everything(x), Check.everything(Check.loaded(text)));
            if (!text.isEmpty()) {
                x.allocate();
                x.ship(1);
                x.cancel(0);
                x.buy(0, 9);
                x.advance(3);
                x.buy(1, 8);
                x.addOrder(2, 3, 4, 5, true);
                x.adjust(0, 44);
            }
        }
    }

    private static void bufferAfterLoad() {
        Check.says("The buffer is empty afterwards, also on an error.");
        OrderAssembler x = new OrderAssembler();
        Check.enter(x, Texts.SMALL);
        x.load();
        Check.due("the buffer after a right text", Check.bufferLength(x), 0);
        Check.enter(x, Texts.SMALL + "x");
        Check.badArgument("a wrong text", x::load);
        Check.due("the buffer after a wrong text", Check.bufferLength(x), 0);
        Check.due("an empty text after a wrong one", x.load(), 0);
        Check.due("the parts of the empty text", x.count(0), 0);
    }

    private static void formattedTextAfterLoad() {
        Check.says("The formatted text stays.");
        OrderAssembler x = used();
        Check.enter(x, "part a 1 1;product p 1 a;");
        x.load();
        Check.due("the formatted text", Check.formatted(x), "stool x6 c2 d5 o0 r0 s0 cancelled");
        x.load();
        Check.due("the formatted text after an empty text", Check.formatted(x), "stool x6 c2 d5 o0 r0 s0 cancelled");
    }

    private static void wrongTextLeavesEverything() {
        Check.says("Throws IllegalArgumentException if the text does not match; everything else stays as it is.");
        String[] wrong = {"?", "x", "part", Texts.SMALL + "part a", Texts.full() + "order", "rung 0 0 1;rung 0 0 0;",
            Texts.SMALL + "product q 1 a 1 ", Texts.SMALL + "rung 0 0 1;order p 1 1 1;order p 1 1 1 whol;"};
        OrderAssembler x = used();
        String before = Check.everything(x).replaceFirst("#[^,]*,[^,]*,[^,]*,", "#");
        for (String text : wrong) {
            Check.enter(x, text);
            Check.badArgument("load of " + text, x::load);
            Check.due("everything after " + text,
                Check.everything(x).replaceFirst("#[^,]*,[^,]*,[^,]*,", "#"), before);
        }
        for (int left = 8; left >= 0; left--) {
            Check.due("undo after wrong texts", x.undo(), left);
        }
        Check.due("the state after undoing all", Check.all(x), Check.all(Check.loaded(Check.FURNITURE)));
        Check.says("Returns the number of products.");
        Texts.right("", 0);
        Texts.right(Texts.SMALL, 1);
        Texts.right(Texts.full(), 8);
    }

    /** Loads a text that is wrong. */
    private static void loadWrong(OrderAssembler x, String text) {
        Check.enter(x, text);
        Check.badArgument("load of " + text, x::load);
    }

    /** Calls that are no load, so that they leave the error alone. */
    private static void otherCalls(OrderAssembler x) {
        x.append(SPACES, SPACES, SPACES, SPACES, SPACES);
        x.truncate(5);
        x.allocate();
        x.undo();
        Check.outside("another exception", () -> x.stock(0));
    }

    private static void latestErrorOffset() {
        Check.says("Returns the error offset of the latest call of load; NONE if that call succeeded or if there was "
            + "none.");
        OrderAssembler x = new OrderAssembler();
        Check.none("errorOffset() before any load", x.errorOffset());
        Check.enter(x, "x");
        Check.none("errorOffset() before load of a wrong text", x.errorOffset());
        loadWrong(x, "x");
        Check.due("errorOffset() at the first byte", x.errorOffset(), 0);
        otherCalls(x);
        Check.due("errorOffset() until the next load", x.errorOffset(), 0);
        Check.due("a right text", x.load(), 0);
        Check.none("errorOffset() after a right text", x.errorOffset());
        loadWrong(x, "part a 10000 1;");
        Check.due("errorOffset() of a wrong number", x.errorOffset(), 7);
        loadWrong(x, "order a 1 1 1;");
        Check.due("errorOffset() of a wrong name", x.errorOffset(), 6);
        loadWrong(x, " ".repeat(899) + "x");
        Check.due("errorOffset() at the last byte", x.errorOffset(), 899);
        loadWrong(x, " ".repeat(896) + "part");
        Check.due("errorOffset() behind the last byte", x.errorOffset(), 900);
        Check.enter(x, Texts.SMALL);
        Check.due("another right text", x.load(), 1);
        Check.none("errorOffset() after another right text", x.errorOffset());
    }

    private static void latestErrorKind() {
        Check.says("Returns the kind of error of the latest call of load; 0 if that call succeeded or if there was "
            + "none.");
        OrderAssembler x = new OrderAssembler();
        Check.due("errorKind() before any load", x.errorKind(), 0);
        Check.enter(x, "x");
        Check.due("errorKind() before load of a wrong text", x.errorKind(), 0);
        loadWrong(x, "x");
        Check.due("errorKind() of a wrong word", x.errorKind(), 1);
        otherCalls(x);
        Check.due("errorKind() until the next load", x.errorKind(), 1);
        Check.due("a right text", x.load(), 0);
        Check.due("errorKind() after a right text", x.errorKind(), 0);
        loadWrong(x, "part a 10000 1;");
        Check.due("errorKind() of a wrong number", x.errorKind(), 2);
        loadWrong(x, "order a 1 1 1;");
        Check.due("errorKind() of a wrong name", x.errorKind(), 3);
        loadWrong(x, Texts.rungs(6) + "rung");
        Check.due("errorKind() of too many rungs", x.errorKind(), 4);
        loadWrong(x, "part a 1 1;product p 20 a;product q 20 p;product r 20 q;product s 2 r;");
        Check.due("errorKind() of too much of a part", x.errorKind(), 5);
        Check.enter(x, Texts.SMALL);
        Check.due("another right text", x.load(), 1);
        Check.due("errorKind() after another right text", x.errorKind(), 0);
    }
}
