import java.lang.reflect.Constructor;
import java.lang.reflect.Field;
import java.lang.reflect.Method;
import java.lang.reflect.Modifier;
import java.nio.file.Files;
import java.nio.file.Path;
import java.util.Arrays;
import java.util.Set;
import java.util.TreeSet;
import java.util.regex.Matcher;
import java.util.regex.Pattern;
import java.util.stream.Collectors;

/** The class's face as the document gives it, and those rules of LANGUAGE.md that can be seen in the source. */
public final class FaceTest {
  private static final String[] FACE = {
    "int feed(long)", "int end(int)", "int text()", "int fault()", "int rule(int)", "int cell(int,int)",
    "int farm(int,int)", "int bed(int)", "int dam(int,int)", "int move(int)", "int law(int)", "int silt(boolean)",
    "int price(int,int)", "int year(int)", "int would(int,int)", "int tell(int)", "int drop(int)", "int judge(int)",
    "int alone(int,int,int)", "int together(int,int)", "int selfish(int)", "int rests(int)", "int breaks(int)",
    "int stands(int)", "int again(int)", "long odds(int,int)", "int see(int,boolean)", "int forget(int)",
    "int fits(int)", "int keep(int)", "int back(int)", "int sheet(int,int,int)", "int lay(int,int,int)",
    "int read(int,int,int,int)", "int torn()", "int count(int)"
  };
  private static int wrong = 0;

  private static void must(boolean holds, String what) {
    if (!holds) { wrong++; System.out.println(what); }
  }

  public static void main(String[] args) throws Exception {
    face();
    inside();
    source(Files.readString(Path.of("src/main/java/RiverDiggers.java")));
    System.out.println(wrong == 0 ? "the face and the language are as told" : wrong + " faults of face or language");
    if (wrong != 0) System.exit(1);
  }

  private static String spelled(Method m) {
    String types = Arrays.stream(m.getParameterTypes()).map(Class::getName).collect(Collectors.joining(","));
    return m.getReturnType().getName() + " " + m.getName() + "(" + types + ")";
  }

  private static void face() {
    Set<String> due = new TreeSet<>(Arrays.asList(FACE)), open = new TreeSet<>();
    for (Method m : RiverDiggers.class.getDeclaredMethods()) {
      if (Modifier.isPrivate(m.getModifiers())) continue;
      must(Modifier.isPublic(m.getModifiers()) && !Modifier.isStatic(m.getModifiers()), "not as told: " + m);
      open.add(spelled(m));
    }
    must(open.equals(due), "the face is " + open);
    must(Modifier.isFinal(RiverDiggers.class.getModifiers()), "the class is not final");
    Constructor<?>[] made = RiverDiggers.class.getDeclaredConstructors();
    must(made.length == 1 && made[0].getParameterCount() == 0 && Modifier.isPublic(made[0].getModifiers()), "the constructor");
    Set<String> constants = new TreeSet<>();
    for (Field f : RiverDiggers.class.getDeclaredFields()) {
      if (!Modifier.isPrivate(f.getModifiers())) constants.add(f.getName());
    }
    must(constants.equals(Set.of("BAD", "STATE", "FULL", "NONE")), "constants " + constants);
    must(RiverDiggers.BAD == -1 && RiverDiggers.STATE == -2 && RiverDiggers.FULL == -3 && RiverDiggers.NONE == -4, "their values");
  }

  private static void inside() {
    Set<String> open = Arrays.stream(FACE).map(s -> s.substring(s.indexOf(' ') + 1, s.indexOf('('))).collect(Collectors.toSet());
    Class<?>[] classes = RiverDiggers.class.getDeclaredClasses();
    must(classes.length < 12, classes.length + " classes inside");
    looksInside(RiverDiggers.class, open);
    for (Class<?> c : classes) {
      must(Modifier.isStatic(c.getModifiers()) && !Modifier.isPublic(c.getModifiers()), c + " is not static or is public");
      looksInside(c, open);
    }
  }

  private static void looksInside(Class<?> c, Set<String> open) {
    int fields = 0;
    for (Field f : c.getDeclaredFields()) {
      if (Modifier.isStatic(f.getModifiers())) must(Modifier.isFinal(f.getModifiers()), f + " is static and not final");
      else fields++;
    }
    must(fields <= 20, c + " has " + fields + " fields");
    for (Method m : c.getDeclaredMethods()) {
      must(m.getParameterCount() <= 7, m + " takes too much");
      must(Modifier.isPublic(m.getModifiers()) || !open.contains(m.getName()), m + " bears the name of a public one");
    }
  }

  private static void source(String text) {
    String code = text.replaceAll("(?s)/\\*.*?\\*/", "").replaceAll("//[^\n]*", "").replaceAll("\"[^\"\n]*\"", "\"\"");
    String[] words = {"throw", "throws", "try", "catch", "synchronized", "assert", "package", "Object", "Exception",
      "System\\.(?!arraycopy)\\w+", "Random", "Thread", "double", "float", "->", "::", "\\w+Exact"};
    for (String w : words) {
      Matcher m = Pattern.compile(w.matches("\\w+") ? "\\b" + w + "\\b" : w).matcher(code);
      must(!m.find(), "the source says " + w);
    }
    Matcher imports = Pattern.compile("import ([^;]+);").matcher(code);
    while (imports.find()) must(imports.group(1).equals("java.util.Arrays"), "the source imports " + imports.group(1));
    must(text.chars().allMatch(c -> c == '\n' || c >= 32 && c < 127), "the source has other signs than plain ones");
    int start = 0;
    String[] lines = text.split("\n");
    for (int i = 0; i < lines.length; i++) {
      if (lines[i].matches(" {4}( {4})?\\S.*\\{") && !lines[i].contains(" class ")) start = i;
      if (lines[i].matches(" {4}( {4})?\\}")) must(i - start < 60, "a long method ends in line " + (i + 1));
    }
  }
}
