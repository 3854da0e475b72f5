import java.lang.reflect.InvocationTargetException;
import java.lang.reflect.Method;
import java.util.ArrayList;
import java.util.Arrays;
import java.util.Comparator;
import java.util.HashMap;
import java.util.List;
import java.util.Map;
import java.util.Random;

/** Runs of calls drawn from fixed seeds: EveningVow answers each as Model does, and throws only what is due. */
public final class ModelTest {
  private static final int RUNS = Integer.getInteger("runs", 240);
  private static final int CALLS = 300;

  private static final List<Method> CALLS_OF_FACE = new ArrayList<>();
  private static final Map<String, Method> OF_MODEL = new HashMap<>();

  public static void main(String[] args) throws Exception {
    for (Method m : EveningVow.class.getDeclaredMethods()) {
      boolean text = m.getName().equals("feed") || m.getName().equals("evening");
      if (java.lang.reflect.Modifier.isPublic(m.getModifiers()) && !text) CALLS_OF_FACE.add(m);
    }
    CALLS_OF_FACE.sort(Comparator.comparing(Method::getName));
    for (Method m : CALLS_OF_FACE) OF_MODEL.put(m.getName(), Model.class.getDeclaredMethod(m.getName(), m.getParameterTypes()));
    int wrong = 0;
    for (int run = 0; run < RUNS && wrong == 0; run++) wrong += oneRun(new Random(1000 + run), run) ? 0 : 1;
    System.out.println(wrong == 0 ? RUNS + " runs are as the model's" : "a run is not as the model's");
    if (wrong != 0) System.exit(1);
  }

  private static boolean oneRun(Random r, int run) throws Exception {
    EveningVow x = new EveningVow();
    Model y = new Model();
    List<String> said = new ArrayList<>();
    int fresh = r.nextInt(4);
    for (int call = 0; call < CALLS; call++) {
      if (fresh-- == 0) {
        fresh = 20 + r.nextInt(120);
        String text = Texts.random(r);
        said.add("text " + text);
        if (!told(x, y, text, r)) {
          System.out.println("run " + run + ": the text is judged otherwise: " + text);
          return false;
        }
        continue;
      }
      Method m = pick(r);
      Object[] args = new Object[m.getParameterCount()];
      for (int i = 0; i < args.length; i++) args[i] = m.getParameterTypes()[i] == boolean.class ? (Object) r.nextBoolean() : (Object) number(r);
      if (args.length >= 2 && m.getName().matches("mean|often|keeps") && r.nextInt(8) > 0) tame(m.getName(), args, r);
      if (m.getName().equals("undrawn") && r.nextInt(6) > 0) aim(x, y, args, r);
      Object got = answer(m, x, args);
      Object due = answer(OF_MODEL.get(m.getName()), y, args);
      said.add(m.getName() + Arrays.toString(args) + " " + got);
      boolean alike = got.equals(due) && x.trouble() == y.trouble() && x.where() == y.where();
      if (!alike) {
        for (String s : said) System.out.println("  " + s);
        System.out.println("run " + run + ": " + m.getName() + Arrays.toString(args) + " answered " + got + " by " + x.trouble()
            + ", due is " + due + " by " + y.trouble());
        return false;
      }
    }
    return true;
  }

  private static Method pick(Random r) {
    if (r.nextInt(5) == 0) {
      String act = List.of("hour", "tell", "cup", "send", "undo", "image", "back").get(r.nextInt(7));
      for (Method m : CALLS_OF_FACE) if (m.getName().equals(act)) return m;
    }
    return CALLS_OF_FACE.get(r.nextInt(CALLS_OF_FACE.size()));
  }

  /** Two of whom one is drawn by the other, if there are such; both are asked, since asking may change the trouble. */
  private static void aim(EveningVow x, Model y, Object[] args, Random r) {
    List<int[]> twos = new ArrayList<>();
    for (int g = 0; g < x.size(3); g++) {
      for (int by = 0; by < x.size(3); by++) if (y.drawn(g, by) > 0 & x.drawn(g, by) > 0) twos.add(new int[] {g, by});
    }
    if (twos.isEmpty()) return;
    int[] two = twos.get(r.nextInt(twos.size()));
    args[0] = two[0];
    args[1] = two[1];
  }

  private static void tame(String name, Object[] args, Random r) {
    int seed = name.equals("keeps") ? 1 : 0;
    if (seed == 1) args[0] = r.nextInt(8) - 1;
    args[seed] = r.nextInt(65_537);
    args[seed + 1] = 1 + r.nextInt(90);
    if (name.equals("often")) args[2] = r.nextInt(62);
  }

  private static int number(Random r) {
    return switch (r.nextInt(12)) {
      case 0 -> r.nextInt(62);
      case 1 -> r.nextInt(100);
      case 2 -> r.nextInt(4) == 0 ? r.nextInt() : r.nextInt(65_540);
      case 3 -> List.of(-1, 60, 61, 40, 41, 99, 100, 65_536, 65_537, 90, 91, Integer.MIN_VALUE, Integer.MAX_VALUE, 13, 14).get(r.nextInt(15));
      case 4 -> -1 - r.nextInt(3);
      default -> r.nextInt(8);
    };
  }

  private static boolean told(EveningVow x, Model y, String text, Random r) {
    int[] n = Texts.numbers(text);
    for (int i = 0; i < n.length; i += 5) {
      if (x.feed(n[i], n[i + 1], n[i + 2], n[i + 3], n[i + 4]) != y.feed(n[i], n[i + 1], n[i + 2], n[i + 3], n[i + 4])) return false;
    }
    int bytes = r.nextInt(10) == 0 ? r.nextInt(text.length() + 2) - 1 : text.length();
    return x.evening(bytes) == y.evening(bytes) && x.fault() == y.fault() && x.where() == y.where() && x.trouble() == y.trouble()
        && x.size(13) == y.size(13);
  }

  private static Object answer(Method m, Object on, Object[] args) throws Exception {
    try {
      m.setAccessible(true);
      return m.invoke(on, args);
    } catch (InvocationTargetException e) {
      return e.getCause().getClass().getName();
    }
  }
}
