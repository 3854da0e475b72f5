import java.lang.reflect.Field;
import java.lang.reflect.Member;
import java.lang.reflect.Method;
import java.lang.reflect.Modifier;
import java.nio.file.Files;
import java.nio.file.Path;
import java.util.Arrays;
import java.util.Set;
import java.util.TreeSet;
import java.util.regex.Matcher;
import java.util.regex.Pattern;

/** The public face is the document's, no more and no less; and the source keeps to what LANGUAGE.md leaves. */
public final class FaceTest {
  private static final Path SOURCE = Path.of("src/main/java/EveningVow.java");
  private static final String FACE =
      "int feed(int,int,int,int,int); int evening(int); int fault(); int where(); int guest(int,int); int drawn(int,int); int there();"
      + " int leaving(); int thereIn(int); int wantIn(int,int); int busiest(boolean); int order(int); int pull(int); int leavesIn(int);"
      + " int ends(); int last(); int chain(int); int biggest(); int undrawn(int,int); int apart(int); int rounds(); int byGrief(int);"
      + " int tireFor(int); int endsWithout(int); int holder(); int without(int); int endsWithTale(int); int endsWithCup(int);"
      + " int bestCup(); int soonest(); int taleAt(int); int latest(); int cupsFor(int); int cupsTo(int); int ways(); int wayAt(int);"
      + " int judge(); int pays(int); int paid(); int house(int,int,boolean); int rests(); int rest(); int endsBy(int);"
      + " long mean(int,int,boolean); int often(int,int,int); int keeps(int,int,int); int hour(); int tell(int); int cup(int);"
      + " int send(int); boolean undo(); int image(); boolean back(int); int led(int); int size(int); int trouble()";

  private static int wrong = 0;

  private static void hold(boolean so, String what) {
    if (!so) {
      wrong++;
      System.out.println("not so: " + what);
    }
  }

  public static void main(String[] args) throws Exception {
    face();
    source();
    System.out.println(wrong == 0 ? "the face and the language are as due" : wrong + " rules are broken");
    if (wrong != 0) System.exit(1);
  }

  private static void face() {
    Set<String> names = new TreeSet<>();
    Set<String> seen = new TreeSet<>();
    for (Method m : EveningVow.class.getDeclaredMethods()) {
      if (Modifier.isPublic(m.getModifiers())) {
        String args = String.join(",", Arrays.stream(m.getParameterTypes()).map(Class::getName).toList());
        seen.add(m.getReturnType().getName() + " " + m.getName() + "(" + args + ")");
        names.add(m.getName());
      } else {
        hold(Modifier.isPrivate(m.getModifiers()), m.getName() + " is private");
      }
    }
    Set<String> due = new TreeSet<>(Arrays.asList(FACE.split("; ")));
    hold(seen.equals(due), "the public methods are the document's: " + seen);
    for (Field f : EveningVow.class.getDeclaredFields()) {
      hold(f.getName().equals("NONE") == Modifier.isPublic(f.getModifiers()), f.getName() + " is as visible as it must be");
      hold(Modifier.isPublic(f.getModifiers()) || Modifier.isPrivate(f.getModifiers()), f.getName() + " is public or private");
      constantIfStatic(f);
    }
    hold(Modifier.isFinal(EveningVow.class.getModifiers()), "the class is final");
    hold(EveningVow.class.getConstructors().length == 1 && EveningVow.class.getDeclaredConstructors().length == 1, "one constructor");
    Class<?>[] inside = EveningVow.class.getDeclaredClasses();
    hold(inside.length <= 12, "at most twelve classes");
    for (Class<?> c : inside) {
      hold(Modifier.isStatic(c.getModifiers()) && !Modifier.isPublic(c.getModifiers()), c + " is static and not public");
      for (Method m : c.getDeclaredMethods()) hold(!names.contains(m.getName()), c + "." + m.getName() + " has a name of its own");
      for (Field f : c.getDeclaredFields()) constantIfStatic(f);
      hold(Arrays.stream(c.getDeclaredFields()).filter(f -> !Modifier.isStatic(f.getModifiers())).count() <= 20, c + " has at most 20 fields");
    }
    Set<String> own = new TreeSet<>();
    for (Method m : EveningVow.class.getDeclaredMethods()) if (Modifier.isPrivate(m.getModifiers())) own.add(m.getName());
    own.retainAll(names);
    hold(own.isEmpty(), "no private method bears the name of a public one: " + own);
  }

  private static void constantIfStatic(Field f) {
    if (isStatic(f)) hold(Modifier.isFinal(f.getModifiers()) && f.getType().isPrimitive(), f + " is a constant");
  }

  private static boolean isStatic(Member m) {
    return Modifier.isStatic(m.getModifiers());
  }

  private static void source() throws Exception {
    String text = Files.readString(SOURCE);
    hold(text.chars().allMatch(c -> c < 128), "the source has the signs 0 to 127 alone");
    String code = text.replaceAll("//[^\n]*", "").replaceAll("(?s)/\\*.*?\\*/", "");
    for (String banned : new String[] {"->", "::", "finally", "catch", "try ", "synchronized", "assert", "static {", "Exact", "package ",
        "hashCode", "toString", "Thread", "System.out", "System.nano", "System.current", "Random", " double ", " float "}) {
      hold(!code.contains(banned), "no " + banned.trim());
    }
    Matcher imports = Pattern.compile("import ([\\w.]+);").matcher(code);
    while (imports.find()) hold(imports.group(1).equals("java.util.NoSuchElementException"), "no import of " + imports.group(1));
    Matcher thrown = Pattern.compile("throw ([^;]*);").matcher(code);
    while (thrown.find()) hold(thrown.group(1).equals("new NoSuchElementException()"), "throw " + thrown.group(1));
    methodsAreShort(text.split("\n"));
  }

  private static void methodsAreShort(String[] lines) {
    int start = -1;
    for (int i = 0; i < lines.length; i++) {
      if (lines[i].matches(" {4,8}(private |public |static |final )*[\\w\\[\\]]+ ?\\w*\\(.*\\{")) {
        start = i;
        hold(lines[i].split(",").length <= 7, "at most seven parameters: " + lines[i].trim());
      }
      if (start >= 0 && lines[i].matches(" {4,8}\\}")) {
        hold(i - start <= 60, "a short method: " + lines[start].trim());
        start = -1;
      }
    }
  }
}
