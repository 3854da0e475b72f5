import java.lang.reflect.Method;
import java.lang.reflect.Modifier;
import java.nio.ByteBuffer;
import java.nio.IntBuffer;
import java.nio.charset.StandardCharsets;
import java.nio.file.Files;
import java.nio.file.Path;
import java.util.Arrays;

/** README.md's example answers what it says there, and its table names every call of the face. */
public final class ReadmeTest {
  private static int wrong = 0;

  private static void hold(boolean so, String what) {
    if (!so) {
      wrong++;
      System.out.println("not so: " + what);
    }
  }

  private static void due(String call, int got, int want) {
    hold(got == want, call + " answered " + got + ", due is " + want);
  }

  public static void main(String[] args) throws Exception {
    example();
    exampleIsTheReadmes();
    everyCallIsNamed();
    System.out.println(wrong == 0 ? "the readme is as due" : wrong + " things of the readme are not so");
    if (wrong != 0) System.exit(1);
  }

  private static void example() {
    // from here on as in README.md
    EveningVow x = new EveningVow();
    String text = "evening cups 1 wakes 5 grief 4;guest al plain want 3 sinks 1;"
        + "guest bo polite want 2 sinks 2;pair al bo;tale ode hours 2 tires 2";
    byte[] tape = Arrays.copyOf(text.getBytes(StandardCharsets.US_ASCII), (text.length() + 19) / 20 * 20);
    IntBuffer n = ByteBuffer.wrap(tape).asIntBuffer();
    while (n.hasRemaining()) x.feed(n.get(), n.get(), n.get(), n.get(), n.get());
    int guests = x.evening(text.length()); // 2; NONE if there is a fault: x.fault() says which, x.where() at which byte
    int hours = x.ends();                  // 3: then al goes, and bo, who is polite, behind him
    int chain = x.chain(0);                // 3: if al went now, bo would go too
    int told = x.tell(0);                  // 3: who left in the tale's two hours, as bits
    boolean undone = x.undo();             // true: it is hour 0 again
    int want = x.cup(1);                   // 7: bo's want, with a cup
    int none = x.cup(1);                   // -1000: there is no cup more
    int why = x.trouble();                 // 6: by what the latest call was refused
    // up to here
    due("evening", guests, 2);
    due("ends", hours, 3);
    due("chain", chain, 3);
    due("tell", told, 3);
    due("undo", undone ? 1 : 0, 1);
    due("hour NOW", x.size(9), 0);
    due("cup", want, 7);
    due("the second cup", none, -1000);
    due("trouble", why, 6);
  }

  private static void exampleIsTheReadmes() throws Exception {
    String source = Files.readString(Path.of("src/test/java/ReadmeTest.java"));
    int from = source.indexOf("README.md\n") + "README.md\n".length();
    String here = source.substring(from, source.indexOf("    // up to here")).replaceAll("(?m)^    ", "");
    String readme = Files.readString(Path.of("README.md"));
    hold(readme.contains("```java\n" + here + "```"), "README.md has the example of this test, line by line");
  }

  private static void everyCallIsNamed() throws Exception {
    String readme = Files.readString(Path.of("README.md"));
    String table = readme.substring(readme.indexOf("| --- |"), readme.indexOf("- Guests, tales"));
    for (Method m : EveningVow.class.getDeclaredMethods()) {
      if (Modifier.isPublic(m.getModifiers())) hold(table.contains("`" + m.getName() + "`"), "README.md's table names " + m.getName());
    }
  }
}
