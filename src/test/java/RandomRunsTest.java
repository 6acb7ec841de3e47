import java.lang.reflect.InvocationTargetException;
import java.lang.reflect.Method;
import java.lang.reflect.Modifier;
import java.nio.charset.StandardCharsets;
import java.util.ArrayList;
import java.util.Arrays;
import java.util.Comparator;
import java.util.List;
import java.util.Map;
import java.util.Random;
import java.util.TreeMap;
import java.util.stream.Stream;

/** Random runs of calls, the same each time, on the class and on the model: each answer must be the same. */
public final class RandomRunsTest {
    private static final int RUNS = 2500;
    private static final int TEXT_RUNS = 2500;
    private static final int CALLS = 512;
    private static final int ODD_SHARE = 12;
    private static final List<String> ACTIONS = List.of("addOrder", "cancel", "reserve", "release",
        "allocate", "ship", "buy", "adjust", "advance", "undo");
    private static final List<String> INPUT = List.of("append", "truncate", "load");
    private static final List<Method> FACE = Stream.of(OrderAssembler.class.getDeclaredMethods())
        .filter(method -> Modifier.isPublic(method.getModifiers()))
        .sorted(Comparator.comparing(Method::getName)).toList();

    private final Random random;
    private final OrderAssembler real = new OrderAssembler();
    private final Model model = new Model();
    private final List<String> told = new ArrayList<>();
    private int calls = 0;
    private boolean same = true;

    private static final Map<String, Integer> THROWN = new TreeMap<>();

    private RandomRunsTest(long seed) {
        random = new Random(seed);
    }

    public static void main(String[] args) {
        int wrong = 0;
        for (int seed = 0; seed < RUNS && wrong < 3; seed++) {
            wrong += new RandomRunsTest(seed).runOfActions() ? 0 : 1;
        }
        for (int seed = 0; seed < TEXT_RUNS && wrong < 3; seed++) {
            wrong += new RandomRunsTest(1_000_000 + seed).runOfTexts() ? 0 : 1;
        }
        System.out.println("answers by kind: " + THROWN);
        System.out.println(wrong == 0 ? "all random runs agree" : "random runs differ");
        System.exit(wrong == 0 ? 0 : 1);
    }

    private boolean runOfActions() {
        enter(new RandomText(random).right());
        while (same && calls < CALLS) {
            boolean act = random.nextInt(5) < 2;
            Method method = act ? method(ACTIONS.get(random.nextInt(ACTIONS.size())))
                : FACE.get(random.nextInt(FACE.size()));
            if (!INPUT.contains(method.getName())) {
                call(method, arguments(method));
            } else if (random.nextInt(40) == 0 && calls < CALLS - 60) {
                enter(new RandomText(random).any());
            }
        }
        return same;
    }

    private boolean runOfTexts() {
        while (same && calls < CALLS - 60) {
            enter(new RandomText(random).any());
            for (int k = 0; k < 8 && same; k++) {
                Method method = FACE.get(random.nextInt(FACE.size()));
                if (!INPUT.contains(method.getName())) {
                    call(method, arguments(method));
                }
            }
        }
        return same;
    }

    /** Appends the text, cuts off the filling, and loads it. */
    private void enter(String text) {
        byte[] bytes = text.getBytes(StandardCharsets.ISO_8859_1);
        for (int start = 0; start < bytes.length; start += 20) {
            byte[] twenty = Arrays.copyOfRange(bytes, start, start + 20);
            Object[] words = new Object[5];
            for (int k = 0; k < 5; k++) {
                words[k] = (twenty[4 * k] & 255) << 24 | (twenty[4 * k + 1] & 255) << 16
                    | (twenty[4 * k + 2] & 255) << 8 | twenty[4 * k + 3] & 255;
            }
            call(method("append"), words);
        }
        call(method("truncate"), random.nextInt(30) == 0 ? random.nextInt(1000) - 50 : bytes.length);
        told.add("text: " + text);
        call(method("load"));
        call(method("errorOffset"));
        call(method("errorKind"));
    }

    private static Method method(String name) {
        return FACE.stream().filter(method -> method.getName().equals(name)).findFirst().orElseThrow();
    }

    private void call(Method method, Object... arguments) {
        if (!same) {
            return;
        }
        calls++;
        String due = answer(model, method, arguments);
        String got = answer(real, method, arguments);
        told.add(method.getName() + Arrays.toString(arguments) + " = " + due);
        THROWN.merge(due.startsWith("throws") ? due : "answers", 1, Integer::sum);
        if (!due.equals(got)) {
            same = false;
            told.stream().skip(Math.max(0, told.size() - 70)).forEach(System.out::println);
            System.out.println("but the class answered " + got);
        }
    }

    private static String answer(Object object, Method method, Object[] arguments) {
        try {
            Method own = object.getClass().getMethod(method.getName(), method.getParameterTypes());
            return String.valueOf(own.invoke(object, arguments));
        } catch (InvocationTargetException thrown) {
            return "throws." + thrown.getCause().getClass().getSimpleName();
        } catch (ReflectiveOperationException missing) {
            return missing.toString();
        }
    }

    private Object[] arguments(Method method) {
        Object[] arguments = new Object[method.getParameterCount()];
        for (int place = 0; place < arguments.length; place++) {
            arguments[place] = argument(method.getName(), place);
        }
        return arguments;
    }

    private Object argument(String name, int place) {
        if (name.equals("addOrder") && place == 4) {
            return random.nextInt(3) == 0;
        }
        if (random.nextInt(ODD_SHARE * 4) == 0) {
            int[] odd = {Integer.MIN_VALUE, Integer.MAX_VALUE, -1, 1000, 10000, 999, 9999, 100, 101};
            return odd[random.nextInt(odd.length)];
        }
        return switch (name) {
            case "lineCount", "level", "pieces", "buildable", "bottleneck", "commonParts", "formatNeeds",
                "buildableTogether" -> index(1);
            case "lineItem", "lineQuantity" -> place == 0 ? index(1) : random.nextInt(8) - 1;
            case "need" -> place == 0 ? index(1) : index(0);
            case "usedBy", "stock", "reserved", "arriving", "nextArrival", "toBuy" -> index(0);
            case "missing" -> place == 0 ? index(2) : index(0);
            case "rungUnits" -> index(3);
            case "orderField" -> place == 0 ? index(2) : random.nextInt(7) - 1;
            case "promise" -> place == 0 ? index(1) : small();
            case "buildableAfter" -> place < 2 ? index(1) : small();
            case "addOrder" -> place == 0 ? index(1) : place == 1 ? small() : place == 2
                ? random.nextInt(11) : random.nextInt(60);
            case "reserve", "release" -> place == 0 ? index(2) : units();
            case "buy" -> place == 0 ? index(0) : small();
            case "adjust" -> place == 0 ? index(0) : random.nextInt(random.nextBoolean() ? 60 : 3000);
            case "advance" -> random.nextInt(random.nextInt(8) == 0 ? 103 : 9);
            case "count", "total" -> random.nextInt(7) - 1;
            case "shipment" -> place == 0 ? random.nextInt(19) - 1 : random.nextInt(5) - 1;
            case "formattedByte" -> random.nextInt(60) - 1;
            default -> index(2);
        };
    }

    /** An index of a part (0), product (1), order (2) or rung (3), seldom one that is out of range. */
    private int index(int what) {
        int count = model.count(what);
        return random.nextInt(ODD_SHARE) == 0 || count == 0 ? random.nextInt(count + 3) - 1
            : random.nextInt(count);
    }

    private int small() {
        return random.nextInt(random.nextInt(6) == 0 ? 1002 : 12);
    }

    private int units() {
        int order = random.nextInt(Math.max(1, model.count(2)));
        boolean whole = model.count(2) > 0 && random.nextBoolean();
        return whole ? model.orderField(order, 1) : random.nextInt(8);
    }
}
