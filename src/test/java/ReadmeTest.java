import java.io.File;
import java.lang.reflect.InvocationTargetException;
import java.lang.reflect.Method;
import java.lang.reflect.Modifier;
import java.net.URL;
import java.net.URLClassLoader;
import java.nio.file.Files;
import java.nio.file.Path;
import java.util.ArrayList;
import java.util.List;
import java.util.Set;
import java.util.TreeSet;
import java.util.regex.Matcher;
import java.util.regex.Pattern;
import java.util.stream.Stream;
import javax.tools.ToolProvider;

/**
 * What README.md shows: its Java compiles as it stands, each call answers what stands behind it (the program and the
 * model alike), every call of the face is shown, and the tests and commands that it names are there.
 */
public final class ReadmeTest {
  private static final Path README = Path.of("README.md");
  private static final Pattern CALL = Pattern.compile("x\\.([a-z]+)\\((.*)\\);\\s+// (-?[0-9]+|[A-Z]+)(: .+)?");
  private static final Set<String> CONSTANTS = Set.of("BAD", "FULL", "FINDING", "STATE", "SPENT", "NONE");
  private static final String MAKING = "WaxWings x = new WaxWings();";
  private static int wrong = 0, answers = 0;

  private static void due(String what, boolean holds) {
    if (holds) return;
    wrong++;
    System.out.println(what);
  }

  /** The lines of all Java blocks, one program in all. */
  private static List<String> shown() throws Exception {
    List<String> shown = new ArrayList<>();
    boolean inside = false;
    for (String line : Files.readAllLines(README)) {
      if (line.startsWith("```")) inside = line.equals("```java");
      else if (inside) shown.add(line);
    }
    due("an open block", !inside);
    return shown;
  }

  private static String program(String name, List<String> body) {
    return "public final class " + name + " {\n"
        + "  public static int wrong = 0;\n"
        + "  private static void due(String call, long got, long want) {\n"
        + "    if (got == want) return;\n"
        + "    wrong++;\n"
        + "    System.out.println(\"" + name + ": \" + call + \" answers \" + got + \", README.md says \" + want);\n"
        + "  }\n"
        + "  public static void main(String[] args) {\n" + String.join("\n", body) + "\n  }\n}\n";
  }

  /** Each call with its answer as a test of it; other lines as they stand. */
  private static List<String> tested(List<String> shown, Set<String> called) {
    List<String> tested = new ArrayList<>();
    for (String line : shown) {
      Matcher call = CALL.matcher(line);
      if (!call.matches()) {
        due("a call without an answer, or an answer that can't be read: " + line, !line.startsWith("x."));
        tested.add(line);
        Matcher name = Pattern.compile("x\\.([a-z]+)\\(").matcher(line);
        while (name.find()) called.add(name.group(1));
        continue;
      }
      String answer = call.group(3);
      boolean named = CONSTANTS.contains(answer);
      due("no constant of the face: " + line, named || !Character.isLetter(answer.charAt(0)));
      called.add(call.group(1));
      answers++;
      String asked = "x." + call.group(1) + "(" + call.group(2) + ")";
      tested.add("due(\"" + asked + "\", " + asked + ", " + (named ? "WaxWings." + answer : answer + "L") + ");");
    }
    return tested;
  }

  private static void compileAndRun(Path dir, List<String> shown, List<String> tested) throws Exception {
    List<String> byModel = new ArrayList<>();
    for (String line : tested) byModel.add(line.equals(MAKING) ? "Model x = new Model();" : line);
    due("it begins with " + MAKING, tested.contains(MAKING));
    String classPath = System.getProperty("java.class.path");
    String[] names = {"AsShown", "ByProgram", "ByModel"};
    List<List<String>> bodies = List.of(shown, tested, byModel);
    for (int n = 0; n < names.length; n++) {
      Path file = dir.resolve(names[n] + ".java");
      Files.writeString(file, program(names[n], bodies.get(n)));
      int status = ToolProvider.getSystemJavaCompiler()
          .run(null, null, null, "-cp", classPath, "-d", dir.toString(), file.toString());
      due(names[n] + " does not compile", status == 0);
    }
    if (wrong != 0) return;
    // one loader for all of it: the model is visible within its own package alone
    List<URL> places = new ArrayList<>();
    places.add(dir.toUri().toURL());
    for (String part : classPath.split(File.pathSeparator)) places.add(Path.of(part).toUri().toURL());
    try (URLClassLoader loader = new URLClassLoader(places.toArray(new URL[0]), ClassLoader.getPlatformClassLoader())) {
      for (String name : names) {
        Class<?> made = loader.loadClass(name);
        try {
          made.getMethod("main", String[].class).invoke(null, (Object) new String[0]);
        } catch (InvocationTargetException thrown) {
          due(name + " threw " + thrown.getCause(), false);
        }
        wrong += made.getField("wrong").getInt(null);
      }
    }
  }

  private static void wholeFace(Set<String> called) {
    for (Method m : WaxWings.class.getDeclaredMethods()) {
      if (Modifier.isPublic(m.getModifiers())) due("a call that is not shown: " + m.getName(), called.contains(m.getName()));
    }
  }

  private static void namedFiles() throws Exception {
    String page = Files.readString(README);
    Set<String> named = new TreeSet<>(), there = new TreeSet<>();
    Matcher test = Pattern.compile("\\b[A-Z][A-Za-z]*Test\\b").matcher(page);
    while (test.find()) named.add(test.group());
    try (Stream<Path> files = Files.list(Path.of("src/test/java"))) {
      files.map(f -> f.getFileName().toString()).filter(f -> f.endsWith("Test.java"))
          .forEach(f -> there.add(f.substring(0, f.length() - 5)));
    }
    due("the tests named " + named + " are not those that are there " + there, named.equals(there));
    due("it does not say how to run the tests", page.contains("\n    .ci/run\n"));
    due(".ci/run can't be run", Files.isExecutable(Path.of(".ci/run")));
    due("no program where it says", Files.exists(Path.of("src/main/java/WaxWings.java")));
  }

  public static void main(String[] args) throws Exception {
    List<String> shown = shown();
    Set<String> called = new TreeSet<>();
    List<String> tested = tested(shown, called);
    wholeFace(called);
    namedFiles();
    Path dir = Files.createTempDirectory("readme");
    try {
      compileAndRun(dir, shown, tested);
    } finally {
      try (Stream<Path> made = Files.list(dir)) { made.forEach(f -> f.toFile().delete()); }
      Files.delete(dir);
    }
    System.out.println(wrong == 0 ? answers + " answers are as README.md says" : wrong + " things are not as README.md says");
    if (wrong != 0) System.exit(1);
  }
}
