import java.util.ArrayList;
import java.util.List;
import java.util.Random;

/** Makes random input texts: right ones, and ones with a fault somewhere. */
final class RandomText {
    private static final String[] FAULTS = {";", " ", "part", "product", "rung", "order", "whole", "0", "1",
        "20", "21", "60", "61", "99", "100", "101", "999", "1000", "9999", "10000", "00007", "0007", "abcdefgh",
        "abcdefghi", "a", "p", "\n", "\t", "\r", "A", "\u00e9", "\u0000", "-1", "x"};

    private final Random random;
    private final List<String> parts = new ArrayList<>();
    private final List<String> products = new ArrayList<>();
    private final StringBuilder text = new StringBuilder();

    RandomText(Random random) {
        this.random = random;
    }

    String any() {
        String made = random.nextInt(6) == 0 ? crowded() : right();
        int faults = random.nextInt(4) == 0 ? 0 : 1;
        for (int k = 0; k < faults; k++) {
            made = withFault(made);
        }
        return made.length() > 900 ? made.substring(0, 900) : made;
    }

    String right() {
        int style = random.nextInt(3);
        for (int k = 1 + random.nextInt(style == 0 ? 12 : 4); k > 0; k--) {
            addPart(style == 1);
        }
        int count = 1 + random.nextInt(style == 0 ? 8 : 4);
        for (int k = count; k > 0; k--) {
            addProduct();
            if (random.nextInt(6) == 0) {
                addOrder();
            }
            if (random.nextInt(9) == 0 && parts.size() < 12) {
                addPart(false);
            }
        }
        for (int k = random.nextInt(4); k > 0; k--) {
            addRung();
        }
        for (int k = random.nextInt(10); k > 0; k--) {
            addOrder();
        }
        return text.length() > 900 ? new RandomText(random).right() : text.toString();
    }

    /** A text that may have too many lines of some kind. */
    private String crowded() {
        addPart(false);
        addProduct();
        int kind = random.nextInt(4);
        for (int k = random.nextInt(21); k > 0; k--) {
            switch (kind) {
                case 0 -> addPart(false);
                case 1 -> addProduct();
                case 2 -> addRung();
                default -> add("order", products.get(0), "1", "1", "1;");
            }
        }
        return text.toString();
    }

    private String withFault(String right) {
        int place = random.nextInt(right.length() + 1);
        String fault = FAULTS[random.nextInt(FAULTS.length)];
        return switch (random.nextInt(6)) {
            case 0 -> right.substring(0, place);
            case 1 -> right.substring(0, place) + fault + right.substring(place);
            case 2 -> right.substring(0, place) + right.substring(Math.min(place + 1, right.length()));
            case 3 -> changedToken(right, fault);
            case 4 -> changedToken(right, changedToken(right, ""));
            default -> right.substring(0, place) + fault
                + right.substring(Math.min(place + fault.length(), right.length()));
        };
    }

    /** Puts the fault in the place of some token; with no fault, answers some token. */
    private String changedToken(String right, String fault) {
        String[] tokens = right.split("(?<=[ ;])");
        int place = random.nextInt(tokens.length);
        if (fault.isEmpty()) {
            return tokens[place].trim().replace(";", "");
        }
        String end = tokens[place].endsWith(";") ? ";" : " ";
        tokens[place] = fault + end;
        return String.join("", tokens);
    }

    private void addPart(boolean rich) {
        String name = name("a");
        parts.add(name);
        int stock = rich ? random.nextInt(10000) : random.nextInt(120);
        add("part", name, "" + stock, (1 + random.nextInt(random.nextInt(4) == 0 ? 60 : 9)) + ";");
    }

    private void addProduct() {
        String name = name("p");
        List<String> items = new ArrayList<>(parts);
        items.addAll(products);
        if (random.nextInt(3) > 0) {
            items.addAll(products);
        }
        add("product", name);
        List<String> used = new ArrayList<>();
        for (int k = 1 + random.nextInt(random.nextInt(5) == 0 ? 6 : 3); k > 0; k--) {
            String item = items.get(random.nextInt(items.size()));
            if (!used.contains(item)) {
                used.add(item);
                add("" + (1 + random.nextInt(random.nextInt(6) == 0 ? 20 : 4)), item);
            }
        }
        text.append(';');
        products.add(name);
    }

    private void addRung() {
        int low = random.nextInt(10);
        add("rung", "" + low, "" + (low + random.nextInt(10 - low)), (1 + random.nextInt(100)) + ";");
    }

    private void addOrder() {
        String product = products.get(random.nextInt(products.size()));
        int units = 1 + random.nextInt(random.nextInt(4) == 0 ? 99 : 8);
        String due = "" + random.nextInt(random.nextInt(4) == 0 ? 1000 : 12);
        add("order", product, "" + units, "" + random.nextInt(10), due, random.nextInt(3) == 0 ? "whole;" : ";");
    }

    private String name(String start) {
        if (random.nextInt(30) == 0) {
            String[] keywords = {"part", "product", "rung", "order", "whole"};
            String keyword = keywords[random.nextInt(keywords.length)];
            if (!parts.contains(keyword) && !products.contains(keyword)) {
                return keyword;
            }
        }
        int number = parts.size() + products.size();
        return start + (char) ('a' + number % 26) + (random.nextInt(20) == 0 ? "abcdef" : "");
    }

    private void add(String... tokens) {
        String[] gaps = {" ", " ", " ", " ", " ", "\n", "\t", "  "};
        for (String token : tokens) {
            boolean closes = text.length() > 0 && text.charAt(text.length() - 1) == ';';
            boolean touches = text.length() == 0 || closes && random.nextInt(4) > 0;
            text.append(touches ? "" : gaps[random.nextInt(gaps.length)]).append(token);
        }
    }
}
