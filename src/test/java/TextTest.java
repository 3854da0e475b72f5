/** Texts, each with its fault and place; 0 for a sound one. */
public final class TextTest {
  private static int wrong = 0;
  private static int checks = 0;

  private static final String HEAD = "evening cups 0 wakes 1 grief 0";
  private static final String THREE = HEAD + ";guest a plain want 1 sinks 0;guest b polite want 1 sinks 0;guest c hired want 1 sinks 0";

  /** The fault is at the place where the mark '|' stands in the text; 0 and no mark for a sound one. */
  private static void fault(int fault, String marked) {
    checks++;
    int place = marked.indexOf('|');
    String text = marked.replace("|", "");
    EveningVow x = new EveningVow();
    int answer = Texts.tell(x, text);
    boolean asDue = x.fault() == fault && x.where() == place && (answer < 0) == (fault > 0) && x.trouble() == (fault > 0 ? 4 : 0);
    if (!asDue) {
      wrong++;
      System.out.println(text + ": fault " + x.fault() + " at " + x.where() + ", due is " + fault + " at " + place);
    }
  }

  public static void main(String[] args) {
    form();
    names();
    bounds();
    many();
    lacks();
    System.out.println(wrong == 0 ? checks + " texts are as due" : wrong + " texts are not as due");
    if (wrong != 0) System.exit(1);
  }

  private static void form() {
    fault(0, THREE);
    fault(0, "  evening  cups 0wakes 1grief 0 ; guest a plain want1sinks 00  ");
    fault(0, "evening cups 004 wakes 030 grief 040;guest abcdefgh homeless want 099 sinks 020");
    fault(1, "|");
    fault(1, "   |");
    fault(1, "|;");
    fault(1, "|7");
    fault(1, "|house");
    fault(1, "|Evening");
    fault(1, "|evenings");
    fault(1, "evening |cup 0");
    fault(1, "evening |0");
    fault(1, "evening|");
    fault(1, "evening  |");
    fault(1, "evening cups |;");
    fault(1, "evening cups |0001 wakes 1");
    fault(1, "evening cups |-1");
    fault(1, "evening cups 0 |,");
    fault(1, HEAD + "|\t");
    fault(1, HEAD + ";|");
    fault(1, HEAD + ";|;");
    fault(1, HEAD + " |guest a");
    fault(1, HEAD + ";guest |abcdefghi plain");
    fault(1, HEAD + ";guest |7 plain");
    fault(1, HEAD + ";guest a |shy");
    fault(1, HEAD + ";guest a plain |wants 1");
    fault(1, HEAD + ";guest a plain want 1 sinks|");
    fault(1, HEAD + ";guest a plain want 1 sinks 0 |0");
    fault(1, THREE + ";pair a|");
    fault(1, THREE + ";pair a |5");
    fault(1, THREE + ";pair a b |c");
    fault(1, THREE + ";draws a b |1");
    fault(1, THREE + ";draws a b by|");
    fault(1, THREE + ";tale t |hour 1");
    fault(1, THREE + ";tale t hours 1 |tire 1");
    fault(1, THREE + ";need n |pays 1");
    fault(1, THREE + ";need n by 1 |pay 1");
    fault(1, THREE + ";seen a |hours 1");
    fault(1, THREE + ";gone a hour|");
    fault(1, THREE + ";|" + (char) 233);
    fault(1, THREE + ";|" + (char) 0);
  }

  private static void names() {
    for (String word : "evening guest pair draws tale need seen gone".split(" ")) {
      fault(1, HEAD + ";guest |" + word + " plain");
      fault(1, THREE + ";pair |" + word + " a");
      fault(1, THREE + ";tale |" + word + " hours");
      fault(1, THREE + ";need |" + word + " by");
      fault(1, THREE + ";seen |" + word + " hour");
    }
    fault(0, HEAD + ";guest plain plain want 1 sinks 0;guest want polite want 1 sinks 0;pair plain want;draws plain want by 1;tale by hours 1 tires 1;seen want hour 1");
    fault(0, HEAD + ";guest z plain want 9 sinks 9;guest azzzzzzz plain want 9 sinks 0;guest zzzzzzza plain want 9 sinks 0;pair zzzzzzza azzzzzzz");
    fault(2, HEAD + ";pair |a b");
    fault(2, THREE + ";pair a |x");
    fault(2, THREE + ";draws |x a");
    fault(2, THREE + ";draws a |x");
    fault(2, THREE + ";seen |x");
    fault(2, THREE + ";gone |x");
    fault(2, THREE + ";tale t hours 1 tires 0;pair a |t");
    fault(2, THREE + ";need n by 1 pays 1;seen |n hour 1");
    fault(2, HEAD + ";guest ab plain want 1 sinks 0;seen |a hour 1");
    fault(2, HEAD + ";guest a plain want 1 sinks 0;seen |ab hour 1");
    fault(3, THREE + ";guest |a");
    fault(3, THREE + ";tale |a");
    fault(3, THREE + ";tale t hours 1 tires 0;need |t");
    fault(3, THREE + ";need n by 0 pays 1;need |n");
    fault(3, THREE + ";need n by 0 pays 1;guest |n");
    fault(3, THREE + ";pair a |a");
    fault(3, THREE + ";pair a b;pair |a");
    fault(3, THREE + ";pair a b;pair c |a");
    fault(3, THREE + ";pair a b;pair c |b");
    fault(3, THREE + ";draws a |a");
    fault(3, THREE + ";draws a b by 1;draws a |b");
    fault(0, THREE + ";draws a b by 1;draws b a by 1;draws a c by 1;pair a b");
    fault(3, HEAD + ";|evening cups 9");
    fault(3, THREE + ";|" + HEAD);
  }

  private static void bounds() {
    fault(4, "evening cups |5");
    fault(4, "evening cups 0 wakes |0");
    fault(4, "evening cups 0 wakes |31");
    fault(4, "evening cups 0 wakes 1 grief |41");
    fault(4, "evening cups 0 wakes 1 grief |999;|".replace(";|", ";"));
    String guest = HEAD + ";guest a plain want ";
    fault(4, guest + "|0");
    fault(4, guest + "|100");
    fault(4, guest + "1 sinks |21");
    fault(0, guest + "99 sinks 20");
    fault(4, THREE + ";draws a b by |0");
    fault(4, THREE + ";draws a b by |21");
    fault(0, THREE + ";draws a b by 20");
    fault(4, THREE + ";tale t hours |0");
    fault(4, THREE + ";tale t hours |4");
    fault(4, THREE + ";tale t hours 3 tires |31");
    fault(0, THREE + ";tale t hours 3 tires 30");
    fault(4, THREE + ";need n by |31");
    fault(4, THREE + ";need n by 30 pays |0");
    fault(4, THREE + ";need n by 30 pays |100");
    fault(0, THREE + ";need n by 30 pays 99");
    fault(4, THREE + ";seen a hour |31");
    fault(4, THREE + ";gone a hour |31");
    fault(0, THREE + ";seen a hour 30;gone a hour 30");
  }

  private static String times(int n, String lines) {
    StringBuilder b = new StringBuilder();
    for (int i = 0; i < n; i++) b.append(';').append(lines.replace('#', (char) ('p' + i)));
    return b.toString();
  }

  private static void many() {
    String guests = HEAD + times(7, "guest # plain want 1 sinks 0");
    fault(0, guests);
    fault(5, guests + ";|guest p");
    fault(5, guests + ";|guest 7");
    String draws = guests + times(6, "draws p # by 1").replace("draws p p by 1", "draws q p by 1") + ";draws r s by 1;draws r t by 1";
    fault(0, draws);
    fault(5, draws + ";|draws p p");
    String tales = THREE + times(4, "tale # hours 1 tires 0");
    fault(0, tales);
    fault(5, tales + ";|tale x");
    String needs = THREE + times(5, "need # by 1 pays 1");
    fault(0, needs);
    fault(5, needs + ";|need x");
    String sights = THREE + times(3, "seen a hour 1") + times(3, "gone a hour 1");
    fault(0, sights);
    fault(5, sights + ";|seen a");
    fault(5, sights + ";|gone a");
    fault(0, guests + ";pair p q;pair r s;pair t u");
    fault(3, guests + ";pair p q;pair r s;pair t u;pair v |p");
  }

  private static void lacks() {
    fault(6, "|guest a");
    fault(6, " |pair");
    fault(6, "|draws");
    fault(6, "|tale");
    fault(6, "|need");
    fault(6, "|seen");
    fault(6, "|gone");
    fault(6, HEAD + "|");
    fault(6, HEAD + "  |");
    fault(6, HEAD + ";tale t hours 1 tires 0|");
  }
}
