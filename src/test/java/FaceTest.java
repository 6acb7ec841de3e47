import java.io.IOException;
import java.lang.reflect.Constructor;
import java.lang.reflect.Field;
import java.lang.reflect.Member;
import java.lang.reflect.Method;
import java.lang.reflect.Modifier;
import java.nio.file.Files;
import java.nio.file.Path;
import java.util.ArrayList;
import java.util.Arrays;
import java.util.List;
import java.util.Set;
import java.util.TreeSet;
import java.util.regex.Matcher;
import java.util.regex.Pattern;
import java.util.stream.Collectors;
import java.util.stream.Stream;

/** The face is the document's, and the source keeps to those rules of the language that can be seen in it. */
public final class FaceTest {
    private static final String INDEX = "IndexOutOfBoundsException";
    private static final String ARGUMENT = "IllegalArgumentException";
    private static final String STATE = "IllegalStateException";
    private static final String[] FREE = {"int append(int,int,int,int,int)", "boolean truncate(int)",
        "int errorOffset()", "int errorKind()", "int count(int)", "int day()", "int scarcestPart()",
        "int lateOrders()", "int coveredOrders()", "int promiseOfAll()", "int allocate()", "int undo()",
        "int undoDepth()", "int total(int)", "int shipment(int,int)", "int formattedByte(int)"};
    private static final String[] INDEXED = {"int lineCount(int)", "int lineItem(int,int)",
        "int lineQuantity(int,int)", "int need(int,int)", "int level(int)", "int pieces(int)", "int usedBy(int)",
        "int commonParts(int,int)", "int stock(int)", "int reserved(int)", "int arriving(int)",
        "int nextArrival(int)", "int buildable(int)", "int bottleneck(int)", "int stateOf(int)",
        "int openUnits(int)", "int reservedUnits(int)", "int shippedUnits(int)", "int orderField(int,int)",
        "int missing(int,int)", "int toBuy(int)", "int promiseOf(int)", "int delayingPart(int)",
        "int wouldGet(int)", "int rungOf(int)", "int rungUnits(int)", "int missingPieces(int)",
        "int formatOrder(int)", "int formatNeeds(int)"};

    private FaceTest() { }

    public static void main(String[] args) throws IOException {
        methods();
        constants();
        otherMembers();
        source(Files.readString(Path.of(args.length > 0 ? args[0] : "src/main/java/OrderAssembler.java")));
        Check.end();
    }

    private static Set<String> face() {
        Set<String> face = new TreeSet<>(Arrays.asList(FREE));
        for (String method : INDEXED) {
            face.add(method + " " + INDEX);
        }
        face.add("int load() " + ARGUMENT);
        face.add("int advance(int) " + ARGUMENT);
        face.add("int buildableTogether(int,int) " + INDEX + " " + ARGUMENT);
        face.add("int promise(int,int) " + INDEX + " " + ARGUMENT);
        face.add("int buildableAfter(int,int,int) " + INDEX + " " + ARGUMENT);
        face.add("int adjust(int,int) " + INDEX + " " + ARGUMENT);
        face.add("int cancel(int) " + INDEX + " " + STATE);
        face.add("int ship(int) " + INDEX + " " + STATE);
        face.add("int addOrder(int,int,int,int,boolean) " + INDEX + " " + ARGUMENT + " " + STATE);
        face.add("int reserve(int,int) " + INDEX + " " + ARGUMENT + " " + STATE);
        face.add("int release(int,int) " + INDEX + " " + ARGUMENT + " " + STATE);
        face.add("int buy(int,int) " + INDEX + " " + ARGUMENT + " " + STATE);
        return face;
    }

    private static String told(Method method) {
        String parameters = Stream.of(method.getParameterTypes()).map(Class::getSimpleName)
            .collect(Collectors.joining(","));
        String exceptions = Stream.of(method.getExceptionTypes()).map(type -> " " + type.getSimpleName())
            .collect(Collectors.joining());
        return method.getReturnType().getSimpleName() + " " + method.getName() + "(" + parameters + ")" + exceptions;
    }

    private static void methods() {
        Set<String> got = new TreeSet<>();
        for (Method method : OrderAssembler.class.getDeclaredMethods()) {
            if (Modifier.isPublic(method.getModifiers())) {
                got.add(told(method));
            }
        }
        Check.due("the public methods", String.join("\n", got), String.join("\n", face()));
    }

    private static void constants() {
        String[] names = {"NONE", "OPEN", "RESERVED", "DONE", "CANCELLED", "SYNTAX", "BAD_NUMBER", "BAD_NAME",
            "TOO_MANY", "TOO_MUCH"};
        int[] values = {-1, 0, 1, 2, 3, 1, 2, 3, 4, 5};
        Set<String> got = new TreeSet<>();
        Set<String> want = new TreeSet<>();
        for (int k = 0; k < names.length; k++) {
            want.add(names[k] + "=" + values[k]);
        }
        for (Field field : OrderAssembler.class.getDeclaredFields()) {
            if (Modifier.isPublic(field.getModifiers())) {
                got.add(field.getName() + "=" + valueOf(field));
            }
        }
        Check.due("the public constants", got.toString(), want.toString());
    }

    private static Object valueOf(Field field) {
        try {
            return field.get(null);
        } catch (IllegalAccessException hidden) {
            return hidden;
        }
    }

    private static void otherMembers() {
        List<Member> members = new ArrayList<>(List.of(OrderAssembler.class.getDeclaredMethods()));
        members.addAll(List.of(OrderAssembler.class.getDeclaredFields()));
        for (Member member : members) {
            int modifiers = member.getModifiers();
            boolean shown = Modifier.isPublic(modifiers) || Modifier.isPrivate(modifiers);
            Check.due("public or private: " + member, shown ? 1 : 0, 1);
        }
        Constructor<?>[] constructors = OrderAssembler.class.getDeclaredConstructors();
        Check.due("the number of constructors", constructors.length, 1);
        Check.due("the constructor is public", Modifier.isPublic(constructors[0].getModifiers()) ? 1 : 0, 1);
        Check.due("the constructor's parameters", constructors[0].getParameterCount(), 0);
        Check.due("the class is final", Modifier.isFinal(OrderAssembler.class.getModifiers()) ? 1 : 0, 1);
        Set<String> faceNames = Stream.of(OrderAssembler.class.getDeclaredMethods())
            .filter(method -> Modifier.isPublic(method.getModifiers())).map(Method::getName)
            .collect(Collectors.toSet());
        Class<?>[] nested = OrderAssembler.class.getDeclaredClasses();
        Check.due("at most twelve classes", nested.length < 12 ? 1 : 0, 1);
        for (Class<?> inside : nested) {
            Check.due("static: " + inside, Modifier.isStatic(inside.getModifiers()) ? 1 : 0, 1);
            long fields = Stream.of(inside.getDeclaredFields())
                .filter(field -> !Modifier.isStatic(field.getModifiers())).count();
            Check.due("at most twenty fields: " + inside, fields <= 20 ? 1 : 0, 1);
            for (Field field : inside.getDeclaredFields()) {
                int modifiers = field.getModifiers();
                Check.due("final if static: " + field, Modifier.isStatic(modifiers) && !Modifier.isFinal(modifiers) ? 1 : 0, 0);
            }
            for (Method method : inside.getDeclaredMethods()) {
                Check.due("a name of the face: " + method, faceNames.contains(method.getName()) ? 1 : 0, 0);
                Check.due("at most seven parameters: " + method, method.getParameterCount() <= 7 ? 1 : 0, 1);
            }
        }
    }

    private static void source(String text) {
        String code = text.replaceAll("(?s)/\\*.*?\\*/", "").replaceAll("//[^\n]*", "");
        String[] forbidden = {"->", "::", "\\btry\\b", "\\bcatch\\b", "\\bfinally\\b", "\\bsynchronized\\b",
            "\\bassert\\b", "\\bpackage\\b", "\\bSystem\\.(?!arraycopy)", "Exact\\b", "\\bthrow\\b(?! new )",
            "\\b(Integer|Long)\\.[A-Z]", "\\bMath\\.(?!max\\(|min\\(|floorMod\\()", "\\bstatic \\{"};
        for (String pattern : forbidden) {
            Matcher found = Pattern.compile(pattern).matcher(code);
            Check.due("the source has " + pattern, found.find() ? 1 : 0, 0);
        }
        Matcher imports = Pattern.compile("import ([^;]*);").matcher(code);
        while (imports.find()) {
            Check.due("import", imports.group(1), "java.util.Arrays");
        }
        copiedRows(code);
        lengths(text);
    }

    /** System.arraycopy and Arrays are for arrays of numbers alone (rule 4). */
    private static void copiedRows(String code) {
        Set<String> others = new TreeSet<>();
        Matcher rows = Pattern.compile("\\b(boolean|[A-Z]\\w*)(\\[\\])+ (\\w+)").matcher(code);
        while (rows.find()) {
            others.add(rows.group(3));
        }
        Check.due("there are rows of booleans", others.contains("wholes") ? 1 : 0, 1);
        Matcher copies = Pattern.compile("\\b(System\\.arraycopy|Arrays\\.\\w+)\\(([^;]*)\\);").matcher(code);
        while (copies.find()) {
            for (String word : copies.group(2).split("\\W+")) {
                Check.due("copied or filled by the library, but no row of numbers: " + word,
                    others.contains(word) ? 1 : 0, 0);
            }
        }
    }

    private static void lengths(String text) {
        int lines = 0;
        for (String line : text.split("\n")) {
            Check.due("the width of " + line, line.length() <= 120 ? 1 : 0, 1);
            boolean begins = line.matches("( {4}| {8})\\w.*\\(.*");
            lines = begins ? 1 : lines + 1;
            if (line.matches("    }|        }")) {
                Check.due("at most sixty lines, not " + lines, lines <= 60 ? 1 : 0, 1);
                lines = 0;
            }
        }
    }
}
