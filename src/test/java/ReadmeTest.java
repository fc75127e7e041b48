import java.io.IOException;
import java.lang.reflect.Field;
import java.lang.reflect.Method;
import java.lang.reflect.Modifier;
import java.nio.file.Files;
import java.nio.file.Path;
import java.util.ArrayList;
import java.util.List;
import java.util.Map;
import java.util.Set;
import java.util.TreeMap;
import java.util.TreeSet;
import java.util.regex.Matcher;
import java.util.regex.Pattern;
import java.util.stream.Stream;

/**
 * README.md against the class: each call that it shows answers what stands behind it,
 * and its tables of calls and of codes are what the class does. The first argument is
 * the project's folder; without one it is the present folder.
 */
public final class ReadmeTest {
    private static final Check CHECK = new Check("ReadmeTest");
    private static final String NEW_OBJECT = "EtchedPlate plate = new EtchedPlate();";
    private static final Pattern CALL = Pattern.compile("plate\\.(\\w+)\\((.*)\\); +// (-?\\d+)(.*)");
    private static final Pattern SIGNATURE = Pattern.compile("`(\\w+)\\((.*)\\)`");
    private static final Pattern RANGE = Pattern.compile("(-?\\d+) to (-?\\d+)");

    private final List<String> page;
    private final Map<String, Method> methods = new TreeMap<>();
    private final Map<String, Integer> constants = new TreeMap<>();

    private ReadmeTest(List<String> page) throws IllegalAccessException {
        this.page = page;
        for (Method method : EtchedPlate.class.getDeclaredMethods()) {
            if (Modifier.isPublic(method.getModifiers())) {
                methods.put(method.getName(), method);
            }
        }
        for (Field field : EtchedPlate.class.getDeclaredFields()) {
            if (Modifier.isPublic(field.getModifiers())) {
                constants.put(field.getName(), field.getInt(null));
            }
        }
    }

    /** A number, or a constant of the class. */
    private int number(String text) {
        Integer constant = constants.get(text.replaceFirst("^EtchedPlate\\.", ""));
        return constant != null ? constant : Integer.parseInt(text);
    }

    private String nameOf(long code) {
        for (String name : constants.keySet()) {
            if (constants.get(name) == code) {
                return name;
            }
        }
        return "no such code";
    }

    private static String[] split(String list) {
        return list.isBlank() ? new String[0] : list.trim().split(", *");
    }

    // ---- the calls that are shown

    private void everyCall() {
        EtchedPlate plate = null;
        boolean shown = false;
        Set<String> called = new TreeSet<>();
        for (String line : page) {
            if (line.startsWith("```")) {
                shown = line.equals("```java");
                plate = null;
            } else if (line.equals(NEW_OBJECT)) {
                plate = new EtchedPlate();
            } else if (shown) {
                called.add(shownCall(plate, line));
            }
        }
        CHECK.part("the calls that are shown");
        CHECK.due("methods shown", called.size(), methods.size());
    }

    /** One line of an example: the method's name. */
    private String shownCall(EtchedPlate plate, String line) {
        CHECK.part(line);
        Matcher call = CALL.matcher(line);
        boolean readable = call.matches() && plate != null && methods.containsKey(call.group(1));
        CHECK.holds("this is a call of the face on a plate, with its answer", readable);
        if (!readable) {
            return "";
        }
        Method method = methods.get(call.group(1));
        String[] written = split(call.group(2));
        CHECK.due("arguments", written.length, method.getParameterCount());
        int[] arguments = new int[written.length];
        for (int k = 0; k < written.length; k++) {
            arguments[k] = number(written[k]);
        }
        long want = Long.parseLong(call.group(3));
        CHECK.due("the call", Asked.answer(method, plate, arguments), want);
        if (want < 0 && method.getReturnType() == int.class) {
            CHECK.holds("its name stands behind a code", call.group(4).matches(", " + nameOf(want) + "\\b.*"));
        }
        return method.getName();
    }

    // ---- the tables

    /** The cells of the rows below a table's head. */
    private List<String[]> rowsBelow(String head) {
        List<String[]> rows = new ArrayList<>();
        int at = page.indexOf(head);
        CHECK.part(head);
        CHECK.holds("the table is there", at >= 0);
        for (int k = at + 2; at >= 0 && k < page.size() && page.get(k).startsWith("|"); k++) {
            String row = page.get(k);
            String[] cells = row.substring(1, row.lastIndexOf('|')).split("\\|", -1);
            for (int c = 0; c < cells.length; c++) {
                cells[c] = cells[c].trim();
            }
            rows.add(cells);
        }
        return rows;
    }

    private void tableOfCodes() {
        List<String[]> rows = rowsBelow("| code | value | meaning | counted |");
        CHECK.due("codes", rows.size(), constants.size());
        for (String[] cells : rows) {
            CHECK.part("the code " + cells[0]);
            int code = number(cells[0].replace("`", ""));
            CHECK.due("its value", number(cells[1]), code);
            boolean counted = new EtchedPlate().errorCount(code) == 0;
            CHECK.holds("counted: " + cells[3], cells[3].equals(counted ? "yes" : "no"));
        }
    }

    private void tableOfCalls() {
        List<Recipe> plates = plates();
        Set<String> told = new TreeSet<>();
        for (String[] cells : rowsBelow("| call | arguments | what it answers | or a code | undoable |")) {
            CHECK.part("the table's row of " + cells[0]);
            Matcher signature = SIGNATURE.matcher(cells[0]);
            boolean known = signature.matches() && methods.containsKey(signature.group(1));
            CHECK.holds("the class has this call", known);
            if (known) {
                CHECK.holds("it has only this row", told.add(signature.group(1)));
                Method method = methods.get(signature.group(1));
                arguments(method, split(signature.group(2)), split(cells[1]));
                answers(new Asked(method, plates), cells);
            }
        }
        CHECK.part("the table of calls");
        CHECK.due("calls told", told.size(), methods.size());
    }

    private void answers(Asked asked, String[] cells) {
        Set<Integer> codes = new TreeSet<>();
        for (String code : split(cells[3])) {
            codes.add(number(code.replace("`", "")));
        }
        CHECK.holds("codes " + codes + ", and returned are " + asked.codes, codes.equals(asked.codes));
        CHECK.holds("undoable: " + cells[4], cells[4].equals(asked.undoable ? "yes" : "no"));
        Matcher range = RANGE.matcher(cells[2]);
        if (range.find()) {
            CHECK.due("least answer", asked.least, number(range.group(1)));
            CHECK.due("greatest answer", asked.greatest, number(range.group(2)));
        }
    }

    /** Each argument is told, by its name in the signature, in the signature's order. */
    private static void arguments(Method method, String[] names, String[] told) {
        CHECK.due("parameters", names.length, method.getParameterCount());
        CHECK.due("arguments told", told.length, names.length);
        for (int k = 0; k < Math.min(names.length, told.length); k++) {
            CHECK.holds("'" + told[k] + "' is about " + names[k], told[k].startsWith(names[k] + " "));
            String range = told[k].substring(told[k].indexOf(' ') + 1);
            takes(method, k, range, Plates::full);
            takes(method, k, range, () -> Plates.pulled(Plates.withLines(3), 2));
        }
    }

    /** The argument at this place is out of range exactly if it is not in the range that is told. */
    private static void takes(Method method, int place, String range, Recipe recipe) {
        int[] edges = edges(range, recipe.make());
        int[] arguments = {1, 1};
        for (int value = -200; value <= 5000; value++) {
            arguments[place] = value;
            boolean taken = Asked.answer(method, recipe.make(), arguments) != EtchedPlate.OUT_OF_RANGE;
            CHECK.holds(range + ", asked with " + value, taken == (edges[0] <= value && value <= edges[1]));
        }
    }

    private static int[] edges(String range, EtchedPlate x) {
        switch (range) {
            case "a line": return new int[] {0, x.lines() - 1};
            case "a print": return new int[] {0, x.prints() - 1};
            case "a set of lines": return new int[] {0, Plates.allOf(x.lines())};
            case "a set of prints": return new int[] {0, Plates.allOf(x.prints())};
            case "from 0": return new int[] {0, Integer.MAX_VALUE};
            default:
                Matcher numbers = RANGE.matcher(range);
                CHECK.holds("'" + range + "' is a range", numbers.matches());
                return new int[] {Integer.parseInt(numbers.group(1)), Integer.parseInt(numbers.group(2))};
        }
    }

    /** Plates on which each call gives its least and its greatest answers, and all its codes. */
    private static List<Recipe> plates() {
        List<Recipe> plates = new ArrayList<>();
        for (int count = 0; count <= 12; count++) {
            int lines = Math.min(count, 10);
            int prints = count;
            plates.add(() -> Plates.pulled(Plates.withLines(lines), prints));
        }
        plates.add(() -> Plates.withLines(1));
        plates.add(Plates::full);
        plates.add(() -> Plates.pulled(Plates.withStrength(5, 99, 0), 1));
        plates.add(() -> Plates.withStrength(1, 99, 0));
        plates.add(() -> Plates.aimed(Plates.withDepths(99, 0), 1, 9, 9, 9, 9, 9, 9, 9, 9, 9));
        plates.add(() -> Plates.aimed(Plates.withStrength(3, 9, 10, 11, 12, 13, 14, 15, 16, 17, 8),
            1, 2, 3, 4, 5, 6, 7, 8, 9, 9));
        Recipe tenLines = () -> Plates.withLines(10);
        plates.add(tenLines.then(x -> x.varnish(1023)));
        return plates;
    }

    // ---- the tests that are named

    private void everyTest(Path folder) throws IOException {
        CHECK.part("the tests");
        String text = String.join("\n", page);
        try (Stream<Path> files = Files.list(folder)) {
            for (Path file : (Iterable<Path>) files::iterator) {
                String name = file.getFileName().toString().replace(".java", "");
                CHECK.holds(name + " is named", !name.endsWith("Test") || text.contains("- `" + name + "`")
                    || text.contains(", `" + name + "`"));
            }
        }
    }

    public static void main(String[] args) throws IOException, IllegalAccessException {
        Path root = Path.of(args.length > 0 ? args[0] : ".");
        ReadmeTest test = new ReadmeTest(Files.readAllLines(root.resolve("README.md")));
        test.everyCall();
        test.tableOfCodes();
        test.tableOfCalls();
        test.everyTest(root.resolve("src/test/java"));
        CHECK.end();
    }
}
