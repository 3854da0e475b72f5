import java.util.ArrayList;
import java.util.List;
import java.util.Random;

/** Texts of evenings for the tests, and how they come onto the tape. */
final class Texts {
  /** The numbers that feed() takes for a text, five a call, blanks behind it. */
  static int[] numbers(String text) {
    int calls = (text.length() + 19) / 20;
    int[] numbers = new int[5 * calls];
    for (int i = 0; i < 20 * calls; i++) {
      int b = i < text.length() ? text.charAt(i) & 255 : ' ';
      numbers[i / 4] = numbers[i / 4] << 8 | b;
    }
    return numbers;
  }

  static void feed(EveningVow x, String text) {
    int[] n = numbers(text);
    for (int i = 0; i < n.length; i += 5) x.feed(n[i], n[i + 1], n[i + 2], n[i + 3], n[i + 4]);
  }

  static int tell(EveningVow x, String text) {
    feed(x, text);
    return x.evening(text.length());
  }

  /** An evening, mostly a sound one; now and then with something wrong in it. */
  static String random(Random r) {
    List<String> lines = new ArrayList<>();
    boolean small = r.nextInt(3) > 0;
    lines.add("evening cups " + r.nextInt(5) + " wakes " + (1 + r.nextInt(small ? 8 : 30)) + " grief " + r.nextInt(small ? 12 : 41));
    int guests = 1 + r.nextInt(7);
    String[] kinds = {"plain", "polite", "hired", "homeless"};
    int kindSpan = r.nextInt(4) == 0 ? 4 : 3;
    for (int g = 0; g < guests; g++) {
      lines.add("guest " + name(g) + " " + kinds[r.nextInt(kindSpan)] + " want " + (1 + r.nextInt(small ? 20 : 99)) + " sinks " + r.nextInt(small ? 5 : 21));
    }
    List<Integer> free = new ArrayList<>();
    for (int g = 0; g < guests; g++) free.add(g);
    java.util.Collections.shuffle(free, r);
    for (int p = r.nextInt(4); p > 0 && free.size() > 1; p--) {
      lines.add("pair " + name(free.remove(0)) + " " + name(free.remove(0)));
    }
    List<String> draws = new ArrayList<>();
    for (int k = r.nextInt(9); k > 0 && guests > 1; k--) {
      int a = r.nextInt(guests);
      int b = r.nextInt(guests);
      String two = "draws " + name(a) + " " + name(b) + " by ";
      if (a != b && !draws.contains(two)) {
        draws.add(two);
        lines.add(two + (1 + r.nextInt(small ? 6 : 20)));
      }
    }
    for (int t = r.nextInt(5); t > 0; t--) lines.add("tale t" + letters(t) + " hours " + (1 + r.nextInt(3)) + " tires " + r.nextInt(small ? 8 : 31));
    for (int n = r.nextInt(6); n > 0; n--) lines.add("need n" + letters(n) + " by " + r.nextInt(31) + " pays " + (1 + r.nextInt(99)));
    for (int s = r.nextInt(7); s > 0; s--) {
      lines.add((r.nextInt(3) > 0 ? "seen " : "gone ") + name(r.nextInt(guests)) + " hour " + r.nextInt(small ? 8 : 31));
    }
    String text = String.join(r.nextInt(4) == 0 ? " ; " : ";", lines);
    return r.nextInt(3) == 0 ? spoiled(text, r) : text;
  }

  private static String name(int g) {
    return "g" + letters(g);
  }

  private static String letters(int n) {
    return n % 3 == 0 ? "" + (char) ('a' + n) : n % 3 == 1 ? "abcdef" + (char) ('a' + n) : "x" + (char) ('a' + n);
  }

  private static String spoiled(String text, Random r) {
    StringBuilder b = new StringBuilder(text);
    for (int k = r.nextInt(3); k >= 0; k--) {
      int at = r.nextInt(b.length());
      switch (r.nextInt(7)) {
        case 0 -> b.deleteCharAt(at);
        case 1 -> b.insert(at, "abz019 ;;  {A\u00e9\u0000".charAt(r.nextInt(15)));
        case 2 -> b.setCharAt(at, "abz019 ;/:`".charAt(r.nextInt(11)));
        case 3 -> b.setLength(at + 1);
        case 4 -> swapTokens(b, r);
        case 5 -> b.append(";").append(anyLine(text, r));
        default -> b.insert(0, anyLine(text, r) + ";");
      }
    }
    return b.length() > 800 ? b.substring(0, 800) : b.toString();
  }

  private static String anyLine(String text, Random r) {
    String[] lines = text.split(";");
    return lines[r.nextInt(lines.length)];
  }

  private static void swapTokens(StringBuilder b, Random r) {
    String[] tokens = b.toString().split("(?<=[ ;])|(?=[ ;])");
    int i = r.nextInt(tokens.length);
    tokens[i] = tokens[r.nextInt(tokens.length)];
    b.setLength(0);
    b.append(String.join("", tokens));
  }
}
