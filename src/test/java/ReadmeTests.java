import java.io.StringWriter;
import java.lang.reflect.Method;
import java.lang.reflect.Modifier;
import java.net.URL;
import java.net.URLClassLoader;
import java.nio.file.Files;
import java.nio.file.Path;
import java.util.ArrayList;
import java.util.List;
import java.util.regex.Matcher;
import java.util.regex.Pattern;
import javax.tools.JavaCompiler;
import javax.tools.ToolProvider;

/** README.md's lines of Java, run in one row: each answers what stands behind it, and every call of the face is shown. */
public final class ReadmeTests {
    private static final Pattern BLOCK = Pattern.compile("(?s)```java\n(.*?)```");
    private static final Pattern LINE = Pattern.compile("(?:int (\\w+) = )?(house\\.(\\w+)\\(.*\\)); +// (-?\\d+|true|false): .+");
    private static final String MAKING = "ToldHouse house = new ToldHouse();";

    private static int wrong = 0;

    public static void main(String[] args) throws Exception {
        List<String> lines = linesOfJava(Files.readString(Path.of("README.md")));
        List<String> shown = new ArrayList<>();
        String program = programOf(lines, shown);
        for (Method m : ToldHouse.class.getDeclaredMethods()) {
            if (Modifier.isPublic(m.getModifiers()) && !shown.contains(m.getName())) {
                tell("README.md does not show " + m.getName());
            }
        }
        for (String answer : answersOf(program)) {
            tell(answer);
        }
        System.out.println(wrong == 0 ? "all of " + shown.size() + " calls in README.md answer so" : wrong + " are wrong");
        System.exit(wrong == 0 ? 0 : 1);
    }

    private static void tell(String what) {
        wrong++;
        System.out.println(what);
    }

    private static List<String> linesOfJava(String page) {
        List<String> lines = new ArrayList<>();
        Matcher block = BLOCK.matcher(page);
        while (block.find()) {
            lines.addAll(List.of(block.group(1).split("\n")));
        }
        return lines;
    }

    private static String programOf(List<String> lines, List<String> shown) {
        StringWriter program = new StringWriter();
        program.write("public final class Shown {\n");
        program.write("  static void due(java.util.List<String> told, String call, Object got, String want) {\n");
        program.write("    if (!want.equals(\"\" + got)) told.add(call + \" answered \" + got + \", README.md says \" + want);\n  }\n");
        program.write("  public static void run(java.util.List<String> told) {\n");
        for (String line : lines) {
            Matcher call = LINE.matcher(line);
            if (line.equals(MAKING)) {
                program.write(line + "\n");
            } else if (!call.matches()) {
                tell("README.md has a line without an answer: " + line);
            } else {
                String name = call.group(1);
                String asked = name == null ? call.group(2) : name;
                program.write(name == null ? "" : "int " + name + " = " + call.group(2) + ";\n");
                program.write("due(told, \"" + call.group(2) + "\", " + asked + ", \"" + call.group(4) + "\");\n");
                shown.add(call.group(3));
            }
        }
        program.write("  }\n}\n");
        return program.toString();
    }

    private static List<String> answersOf(String program) throws Exception {
        Path room = Files.createTempDirectory("readme");
        Path source = room.resolve("Shown.java");
        Path classes = room.resolve("Shown.class");
        List<String> told = new ArrayList<>();
        try {
            Files.writeString(source, program);
            JavaCompiler compiler = ToolProvider.getSystemJavaCompiler();
            int failed = compiler.run(null, null, null, "-cp", System.getProperty("java.class.path"),
                "-d", room.toString(), source.toString());
            if (failed != 0) {
                told.add("README.md's lines do not compile");
                return told;
            }
            try (URLClassLoader loader = new URLClassLoader(new URL[] {room.toUri().toURL()})) {
                loader.loadClass("Shown").getMethod("run", List.class).invoke(null, told);
            }
            return told;
        } finally {
            Files.deleteIfExists(source);
            Files.deleteIfExists(classes);
            Files.deleteIfExists(room);
        }
    }
}
