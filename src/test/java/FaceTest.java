import java.lang.reflect.Constructor;
import java.lang.reflect.Field;
import java.lang.reflect.Method;
import java.lang.reflect.Modifier;
import java.nio.file.Files;
import java.nio.file.Path;
import java.util.ArrayList;
import java.util.Arrays;
import java.util.List;
import java.util.Set;
import java.util.TreeSet;
import java.util.regex.Matcher;
import java.util.regex.Pattern;

/** The public face, and those rules of LANGUAGE.md that can be read off the class and its source. */
public final class FaceTest {
  private static final String[] FACE = {
      "int row(int,int)", "int lay(int,int,int)", "int at(int,int)", "int tear(int)", "int copy(int,int,int,int,int)",
      "int mean(int)", "int text(int,int)", "int put(int,int,int)", "int fault(int)", "int sky(int)", "int flyer(int,int)",
      "int mark(int,int)", "int air(int,int)", "int sun(int)", "int letters(int,int)", "int beat(int,int)", "int undo(int)",
      "int over()", "int can(int)", "int keep(int)", "int on(int)", "int judge(int,int)", "int soonest(int,int)",
      "int lightest(int,int)", "int ways(int)", "int heights(int,int)", "int nth(int,int,int)", "int wax(int)",
      "int strength(int)", "int most(int)", "int hottest(int)", "int kinds(int)", "int post(int,int)",
      "int plan(int,int,int)", "int odds(int,int)", "int choice(int,int)", "int boats(int,int)", "int drip(int,int)",
      "int feathers(int,int)", "int lots(int,int,int)", "int asked()", "long upper()", "long lower()", "int count(int)",
      "int finding()", "int findings(int)", "long digest()"};
  private static final String[] CONSTANTS = {"BAD=-1", "FULL=-2", "FINDING=-3", "STATE=-4", "SPENT=-6", "NONE=-9"};
  private static final Set<String> LIBRARY = Set.of("Math", "Integer", "Long", "System", "Arrays", "String", "StringBuilder");
  private static int wrong = 0;

  private static void due(String what, boolean holds) {
    if (holds) return;
    wrong++;
    System.out.println(what);
  }

  private static String shape(Method m) {
    StringBuilder s = new StringBuilder(m.getReturnType().getSimpleName()).append(' ').append(m.getName()).append('(');
    for (int i = 0; i < m.getParameterCount(); i++) s.append(i == 0 ? "" : ",").append(m.getParameterTypes()[i].getSimpleName());
    return s.append(')').toString();
  }

  private static void face() throws Exception {
    Class<?> c = WaxWings.class;
    due("the class is public and final", Modifier.isPublic(c.getModifiers()) && Modifier.isFinal(c.getModifiers()));
    Set<String> seen = new TreeSet<>();
    for (Method m : c.getDeclaredMethods()) {
      if (m.isSynthetic()) continue;
      if (Modifier.isPublic(m.getModifiers()) && !Modifier.isStatic(m.getModifiers())) seen.add(shape(m));
      else due("another visible method: " + m, Modifier.isPrivate(m.getModifiers()));
    }
    due("the public methods are the document's: " + seen, seen.equals(new TreeSet<>(Arrays.asList(FACE))));
    Set<String> constants = new TreeSet<>();
    for (Field f : c.getDeclaredFields()) {
      if (Modifier.isPrivate(f.getModifiers()) || f.isSynthetic()) continue;
      due("a visible field that is no constant: " + f, f.getModifiers() == (Modifier.PUBLIC | Modifier.STATIC | Modifier.FINAL));
      constants.add(f.getName() + "=" + f.getInt(null));
    }
    due("the constants are the document's: " + constants, constants.equals(new TreeSet<>(Arrays.asList(CONSTANTS))));
    Constructor<?>[] made = c.getDeclaredConstructors();
    due("one public constructor without arguments",
        made.length == 1 && made[0].getParameterCount() == 0 && Modifier.isPublic(made[0].getModifiers()));
  }

  /** The face as the document gives it: in its block of Java, and once more above each promise. */
  private static void faceOfDocument(Path document) throws Exception {
    // the list above stands for it where the document is not at hand
    if (!Files.exists(document)) return;
    String doc = Files.readString(document);
    Set<String> face = new TreeSet<>(), promised = new TreeSet<>();
    Matcher m = Pattern.compile("    public (int|long) ([a-z]+)\\((.*?)\\);").matcher(doc);
    while (m.find()) face.add(m.group(1) + " " + m.group(2) + "(" + typesOf(m.group(3)) + ")");
    due("the document's face: " + face, face.equals(new TreeSet<>(Arrays.asList(FACE))));
    m = Pattern.compile("## Promise ([0-9]+): ([a-z]+)\n\n`(int|long) \\2\\((.*?)\\)`:").matcher(doc);
    while (m.find()) promised.add(m.group(3) + " " + m.group(2) + "(" + typesOf(m.group(4)) + ")");
    due("the promised calls: " + promised, promised.equals(face));
    m = Pattern.compile("public static final int ([^;]*);").matcher(doc);
    due("the document's constants", m.find());
    Set<String> constants = new TreeSet<>(Arrays.asList(m.group(1).replace(" ", "").split(",")));
    due("the document's constants: " + constants, constants.equals(new TreeSet<>(Arrays.asList(CONSTANTS))));
  }

  private static String typesOf(String parameters) {
    return parameters.replaceAll(" [a-z]+(, |$)", ",").replaceAll(",$", "");
  }

  private static void shapes() {
    Set<String> publicNames = new TreeSet<>();
    for (String f : FACE) publicNames.add(f.substring(f.indexOf(' ') + 1, f.indexOf('(')));
    List<Class<?>> all = new ArrayList<>(Arrays.asList(WaxWings.class.getDeclaredClasses()));
    due("twelve classes at most", all.size() < 12);
    for (Class<?> c : all) {
      due("a class inside that isn't static: " + c, Modifier.isStatic(c.getModifiers()));
      due("a class inside that is public: " + c, !Modifier.isPublic(c.getModifiers()) && !Modifier.isProtected(c.getModifiers()));
      for (Method m : c.getDeclaredMethods()) due("bears a public one's name: " + m, !publicNames.contains(m.getName()));
    }
    for (Method m : WaxWings.class.getDeclaredMethods()) {
      due("a private method bears a public one's name: " + m,
          !Modifier.isPrivate(m.getModifiers()) || !publicNames.contains(m.getName()));
    }
    all.add(WaxWings.class);
    for (Class<?> c : all) {
      int fields = 0;
      for (Field f : c.getDeclaredFields()) {
        if (!Modifier.isStatic(f.getModifiers())) fields++;
        else due("a static field that isn't final: " + f, Modifier.isFinal(f.getModifiers()));
      }
      due("more than twenty fields: " + c, fields <= 20);
      for (Method m : c.getDeclaredMethods()) due("more than seven parameters: " + m, m.getParameterCount() <= 7);
      for (Constructor<?> k : c.getDeclaredConstructors()) due("more than seven parameters: " + k, k.getParameterCount() <= 7);
    }
  }

  private static void source(String path) throws Exception {
    String whole = Files.readString(Path.of(path));
    for (char ch : whole.toCharArray()) due("a sign beyond 127", ch < 128);
    String code = whole.replaceAll("(?s)/\\*.*?\\*/", "").replaceAll("//[^\n]*", "");
    for (String word : new String[] {"throw", "throws", "try", "catch", "synchronized", "assert", "import", "package",
        "protected", "hashCode", "toString", "Object", "Thread", "Random", "instanceof"}) {
      due("the word " + word, !Pattern.compile("\\b" + word + "\\b").matcher(code).find());
    }
    due("a lambda or a method reference", !code.contains("->") && !code.contains("::"));
    due("a static block", !Pattern.compile("static\\s*\\{").matcher(code).find());
    Matcher calls = Pattern.compile("\\b([A-Z][A-Za-z]+)\\.[a-z]").matcher(code);
    while (calls.find()) due("another library: " + calls.group(1), LIBRARY.contains(calls.group(1)));
    String[] lines = whole.split("\n", -1);
    int begun = -1;
    for (int n = 0; n < lines.length; n++) {
      due("a line of more than 120 signs: " + (n + 1), lines[n].length() <= 120);
      if (lines[n].matches("( {4}| {8})\\S.*\\) \\{")) begun = n;
      if (lines[n].matches("( {4}| {8})\\}")) {
        due("a method of more than sixty lines ends at " + (n + 1), begun < 0 || n - begun < 60);
        begun = -1;
      }
    }
  }

  public static void main(String[] args) throws Exception {
    face();
    faceOfDocument(Path.of("../shared/DOC.md"));
    shapes();
    source(args.length > 0 ? args[0] : "src/main/java/WaxWings.java");
    System.out.println(wrong == 0 ? "the face and the source are as they should be" : wrong + " things are not as they should be");
    if (wrong != 0) System.exit(1);
  }
}
