import java.lang.reflect.InvocationTargetException;
import java.lang.reflect.Method;
import java.util.Arrays;
import java.util.Comparator;
import java.util.NoSuchElementException;
import java.util.regex.Matcher;
import java.util.regex.Pattern;

/** What the tests of boundary cases share: each is a method named by its promise, promiseNN_what, and runs on its own. */
class Edges {
  static final int LEAST = Integer.MIN_VALUE;
  static final int MOST = Integer.MAX_VALUE;
  /** What led() stands for here when it throws. */
  static final int THROWN = -77;

  /** As much of each sort as there is room for. */
  static final String FULL = text(4, 30, 40, guests(7, "homeless", 99, 20), "pair a b;pair c d;pair e f",
      "draws a b by 1;draws b a by 1;draws c a by 1;draws d a by 1;draws e a by 1;draws f a by 1;draws g a by 1;draws a g by 1",
      "tale p hours 1 tires 1;tale q hours 1 tires 1;tale r hours 1 tires 1;tale s hours 1 tires 1",
      "need i by 0 pays 1;need j by 0 pays 1;need k by 0 pays 1;need l by 0 pays 1;need m by 0 pays 1",
      "seen a hour 0;seen a hour 0;seen a hour 0;gone a hour 0;gone a hour 0;gone a hour 0");

  private static final Pattern NAME = Pattern.compile("promise(\\d\\d)_\\w+");
  private static String running = "";
  private static int wrong = 0;

  /** Runs all tests of a class; each of the promises named must have one. */
  static void runAll(Class<?> tests, int first, int last) {
    Method[] methods = tests.getDeclaredMethods();
    Arrays.sort(methods, Comparator.comparing(Method::getName));
    boolean[] met = new boolean[100];
    int ran = 0;
    int failed = 0;
    for (Method m : methods) {
      Matcher name = NAME.matcher(m.getName());
      if (!name.matches()) continue;
      met[Integer.parseInt(name.group(1))] = true;
      int ahead = wrong;
      run(m);
      ran++;
      if (wrong > ahead) failed++;
    }
    running = tests.getName();
    for (int promise = first; promise <= last; promise++) due("a test of promise " + promise, met[promise], true);
    System.out.println(wrong == 0 ? ran + " boundary cases are as due" : failed + " of " + ran + " boundary cases are not as due");
    if (wrong != 0) System.exit(1);
  }

  private static void run(Method m) {
    running = m.getName();
    try {
      m.invoke(null);
    } catch (InvocationTargetException e) {
      wrong++;
      System.out.println(running + ": " + e.getCause());
      e.getCause().printStackTrace(System.out);
    } catch (IllegalAccessException e) {
      throw new IllegalStateException(e);
    }
  }

  static void due(String what, long got, long due) {
    if (got != due) {
      wrong++;
      System.out.println(running + ": " + what + " answered " + got + ", due is " + due);
    }
  }

  static void due(String what, boolean got, boolean due) {
    due(what, got ? 1 : 0, due ? 1 : 0);
  }

  /** The call just made was refused with NONE, by this trouble. */
  static void refused(EveningVow x, String what, long got, int trouble) {
    refused(x, what, got, -1, trouble);
  }

  static void refused(EveningVow x, String what, long got, long due, int trouble) {
    due(what, got, due);
    due(what + ": trouble", x.trouble(), trouble);
  }

  static void refused(EveningVow x, String what, boolean got, int trouble) {
    refused(x, what, got ? 1 : 0, 0, trouble);
  }

  static String text(int cups, int wakes, int grief, String... lines) {
    return "evening cups " + cups + " wakes " + wakes + " grief " + grief + ";" + String.join(";", lines);
  }

  /** An object to which a sound text was told. */
  static EveningVow of(String text) {
    EveningVow x = new EveningVow();
    if (Texts.tell(x, text) < 0) throw new IllegalStateException("fault " + x.fault() + " at " + x.where() + " in " + text);
    return x;
  }

  static EveningVow of(int cups, int wakes, int grief, String... lines) {
    return of(text(cups, wakes, grief, lines));
  }

  /** An evening of no cups and no grief. */
  static EveningVow plainly(String... lines) {
    return of(text(0, 1, 0, lines));
  }

  /** A guest's LINE, told shortly: name, kind, want, sinks. */
  static String guest(String name, String kind, int want, int sinks) {
    return "guest " + name + " " + kind + " want " + want + " sinks " + sinks;
  }

  /** LINES for as many guests of one sort, named a, b, .. */
  static String guests(int many, String kind, int want, int sinks) {
    StringBuilder b = new StringBuilder();
    for (int g = 0; g < many; g++) b.append(g == 0 ? "" : ";").append(guest("" + (char) ('a' + g), kind, want, sinks));
    return b.toString();
  }

  static void hours(EveningVow x, int many) {
    for (int h = 0; h < many; h++) x.hour();
  }

  static int led(EveningVow x, int i) {
    try {
      return x.led(i);
    } catch (NoSuchElementException e) {
      return THROWN;
    }
  }

  /** The fault of a text, at the place where the mark '|' stands in it; 0 and no mark for a sound one. */
  static void fault(int fault, String marked) {
    faultAt(fault, marked.indexOf('|'), marked.replace("|", ""));
  }

  static void faultAt(int fault, int place, String text) {
    EveningVow x = new EveningVow();
    int answer = Texts.tell(x, text);
    due("answer to " + text, answer < 0, fault > 0);
    due("trouble of " + text, x.trouble(), fault > 0 ? 4 : 0);
    due("fault of " + text, x.fault(), fault);
    due("place in " + text, x.where(), place);
  }

  /** A WHOLE between two texts: its least and most are sound, those beyond are out of bounds. */
  static void bounds(String ahead, int least, int most, String behind) {
    fault(0, ahead + least + behind);
    fault(0, ahead + most + behind);
    if (least > 0) fault(4, ahead + "|" + (least - 1) + behind);
    fault(4, ahead + "|" + (most + 1) + behind);
    fault(4, ahead + "|999" + behind);
  }
}
