import java.io.ByteArrayOutputStream;
import java.io.IOException;
import java.net.URL;
import java.net.URLClassLoader;
import java.nio.file.Files;
import java.nio.file.Path;
import java.util.ArrayList;
import java.util.List;
import java.util.TreeSet;
import java.util.function.Supplier;
import java.util.regex.Matcher;
import java.util.regex.Pattern;
import java.util.stream.Stream;
import javax.tools.ToolProvider;

/**
 * README.md as it stands: its Java blocks are compiled and run, each call being due the answer
 * behind it; the rows of its table of CODES are told as NODES, with each part right and wrong.
 */
public final class ReadmeTest {
    private static final Due DUE = new Due("ReadmeTest");
    private static final Pattern BLOCK = Pattern.compile("(?ms)^```java\\n(.*?)^```$");
    private static final Pattern CALL = Pattern.compile("(?:int (\\w+) = )?(rules\\.(\\w+)\\(.*\\)); *// (-?\\d+)(:.*)?");
    private static final Pattern OBJECT = Pattern.compile("ArrayRules rules = new ArrayRules\\(\\);");
    private static final Pattern PLAIN = Pattern.compile("int \\w+ = ArrayRules\\.\\w+;");
    private static final int SOME_NODE = 0, LIST_OF_ONE = 1, LIST_OF_TWO = 2, LIST_OF_THREE = 3, NO_PART = -9;

    private final List<String> calls = new ArrayList<>();
    private final List<Long> answers = new ArrayList<>();
    private final StringBuilder source = new StringBuilder();

    public static void main(String[] args) throws Exception {
        String readme = Files.readString(Path.of("README.md"));
        Path folder = Files.createTempDirectory("readme");
        try {
            playBlocks(readme, folder);
        } finally {
            remove(folder);
        }
        lookAtCodes(readme);
        DUE.end();
    }

    private static void playBlocks(String readme, Path folder) throws Exception {
        TreeSet<String> shown = new TreeSet<>();
        Matcher block = BLOCK.matcher(readme);
        int blocks = 0;
        while (block.find()) {
            blocks++;
            ReadmeTest test = new ReadmeTest();
            test.read(block.group(1), shown);
            test.play(folder, "ReadmeBlock" + blocks);
        }
        DUE.holds("README.md has blocks of Java", blocks > 0);
        DUE.is("methods of the face that README.md shows, of 15: " + shown, shown.size(), 15);
    }

    private void read(String block, TreeSet<String> shown) {
        for (String line : block.split("\n")) {
            Matcher call = CALL.matcher(line);
            if (call.matches()) {
                String kept = call.group(1) == null ? "" : "int " + call.group(1) + " = ";
                String got = call.group(1) == null ? call.group(2) : call.group(1);
                source.append(kept.isEmpty() ? "" : kept + call.group(2) + ";\n");
                source.append("got[" + calls.size() + "] = " + got + ";\n");
                calls.add(line.substring(0, line.indexOf("//")).trim());
                answers.add(Long.parseLong(call.group(4)));
                shown.add(call.group(3));
            } else {
                boolean known = OBJECT.matcher(line).matches() || PLAIN.matcher(line).matches();
                DUE.holds("a line with its answer: " + line, known);
                source.append(line).append("\n");
            }
        }
    }

    private void play(Path folder, String name) throws Exception {
        Path file = folder.resolve(name + ".java");
        Files.writeString(file, "public final class " + name + " implements java.util.function.Supplier<long[]> {\n"
            + "public long[] get() {\nlong[] got = new long[" + calls.size() + "];\n" + source + "return got;\n}\n}\n");
        ByteArrayOutputStream said = new ByteArrayOutputStream();
        int exit = ToolProvider.getSystemJavaCompiler().run(null, said, said,
            "-cp", System.getProperty("java.class.path"), "-d", folder.toString(), file.toString());
        DUE.is("javac " + name + ": " + said, exit, 0);
        if (exit != 0) {
            return;
        }
        try (URLClassLoader loader = new URLClassLoader(new URL[] {folder.toUri().toURL()})) {
            Object made = loader.loadClass(name).getConstructor().newInstance();
            long[] got = (long[]) ((Supplier<?>) made).get();
            for (int i = 0; i < got.length; i++) {
                DUE.is("README.md: " + calls.get(i), got[i], answers.get(i));
            }
        }
    }

    private static void lookAtCodes(String readme) {
        int codes = 0;
        for (String line : readme.split("\n")) {
            String[] cells = line.split("\\|", -1);
            if (cells.length == 8 && cells[1].trim().matches("\\d+")) {
                DUE.is("the next row of CODES", Integer.parseInt(cells[1].trim()), codes);
                lookAtCode(codes, cells);
                codes++;
            }
        }
        DUE.is("rows of CODES", codes, 27);
        tell(9, new int[] {48, SOME_NODE, SOME_NODE, ArrayRules.NONE}, true);
        tell(9, new int[] {48, SOME_NODE, ArrayRules.NONE, ArrayRules.NONE}, true);
    }

    private static void lookAtCode(int code, String[] cells) {
        int[] right = new int[4];
        for (int part = 0; part < 4; part++) {
            right[part] = rightOnes(cells[3 + part].trim())[0];
        }
        tell(code, right, true);
        for (int part = 0; part < 4; part++) {
            String kind = cells[3 + part].trim();
            for (int other : rightOnes(kind)) {
                tell(code, with(right, part, other), true);
            }
            for (int other : wrongOnes(kind)) {
                tell(code, with(right, part, other), false);
            }
        }
    }

    // NONE of a 'node or none' is looked at apart: c of MAKE can't be it unless d is.
    private static int[] rightOnes(String kind) {
        switch (kind) {
            case "":
                return new int[] {NO_PART, 99, Integer.MIN_VALUE, Integer.MAX_VALUE};
            case "number":
                return new int[] {5, -5, Integer.MIN_VALUE, Integer.MAX_VALUE};
            case "variable":
                return new int[] {0, 7};
            case "node":
                return new int[] {SOME_NODE, LIST_OF_THREE};
            case "node or none":
                return new int[] {SOME_NODE};
            case "list or none":
                return new int[] {LIST_OF_ONE, LIST_OF_THREE, ArrayRules.NONE};
            case "list of two":
                return new int[] {LIST_OF_TWO};
            case "type":
                return new int[] {0, 7, 8, 9, 11, 16, 27, 48, 59};
            case "type with DIMS":
                return new int[] {48, 52, 59};
            case "type not of numbers":
                return new int[] {8, 9, 10, 11, 16, 59};
            case "8, 10 or 11":
                return new int[] {8, 10, 11};
            default:
                DUE.holds("README.md: a part of CODES that is known: " + kind, false);
                return new int[] {NO_PART};
        }
    }

    private static int[] wrongOnes(String kind) {
        switch (kind) {
            case "variable":
                return new int[] {-1, 8};
            case "node":
                return new int[] {-1, 4};
            case "node or none":
                return new int[] {-2, 4};
            case "list or none":
                return new int[] {-2, SOME_NODE, 4};
            case "list of two":
                return new int[] {-1, SOME_NODE, LIST_OF_ONE, LIST_OF_THREE, 4};
            case "type":
                return new int[] {-1, 12, 60, 64};
            case "type with DIMS":
                return new int[] {-1, 0, 8, 11, 60, 64};
            case "type not of numbers":
                return new int[] {-1, 0, 7, 12, 64};
            case "8, 10 or 11":
                return new int[] {-1, 7, 9, 12, 24};
            default:
                return new int[0];
        }
    }

    private static int[] with(int[] parts, int part, int other) {
        int[] changed = parts.clone();
        changed[part] = other;
        return changed;
    }

    private static void tell(int code, int[] parts, boolean fits) {
        ArrayRules rules = new ArrayRules();
        rules.node(0, 1, 0, 0, 0);
        rules.node(10, ArrayRules.NONE, SOME_NODE, 0, 0);
        rules.node(10, LIST_OF_ONE, SOME_NODE, 0, 0);
        rules.node(10, LIST_OF_TWO, SOME_NODE, 0, 0);
        String call = "node(" + code + ", " + parts[0] + ", " + parts[1] + ", " + parts[2] + ", " + parts[3] + ")";
        int told = rules.node(code, parts[0], parts[1], parts[2], parts[3]);
        DUE.is("README.md, table of CODES: " + call, told, fits ? 4 : ArrayRules.OUTSIDE);
    }

    private static void remove(Path folder) throws IOException {
        try (Stream<Path> files = Files.list(folder)) {
            for (Path file : files.toList()) {
                Files.delete(file);
            }
        }
        Files.delete(folder);
    }
}
