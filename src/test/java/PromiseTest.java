import java.util.NoSuchElementException;

/** The promises one by one, with answers worked out by hand from the document. */
public final class PromiseTest {
  private static int wrong = 0;
  private static int checks = 0;

  private static void due(String what, long got, long due) {
    checks++;
    if (got != due) {
      wrong++;
      System.out.println(what + " answered " + got + ", due is " + due);
    }
  }

  private static void due(String what, boolean got, boolean due) {
    due(what, got ? 1 : 0, due ? 1 : 0);
  }

  /** The call just made was refused with this answer, by this trouble. */
  private static void refused(EveningVow x, String what, long got, long due, int trouble) {
    due(what, got, due);
    due(what + ": trouble", x.trouble(), trouble);
  }

  private static EveningVow of(String text) {
    EveningVow x = new EveningVow();
    if (Texts.tell(x, text) < 0) throw new IllegalStateException("fault " + x.fault() + " at " + x.where() + " in " + text);
    return x;
  }

  /** a and b, a pair, leave together at hour 2, then c, who is polite; d is hired and holds it till hour 7. */
  private static final String HOUSE = "evening cups 1 wakes 10 grief 5;guest a plain want 2 sinks 1;guest b plain want 4 sinks 2;"
      + "guest c polite want 1 sinks 1;guest d hired want 3 sinks 3;pair a b;draws d a by 2;"
      + "tale t hours 3 tires 1;tale u hours 1 tires 30;need n by 2 pays 7;need m by 7 pays 1;seen d hour 6;gone c hour 2";
  private static final String ENDLESS = "evening cups 4 wakes 3 grief 0;guest hob homeless want 1 sinks 20;tale t hours 3 tires 0;tale u hours 2 tires 0";
  private static final String SHORT = "evening cups 0 wakes 1 grief 0;guest a plain want 5 sinks 2";

  public static void main(String[] args) {
    newObject();
    tape();
    evening();
    guests();
    going();
    chains();
    holding();
    tales();
    cups();
    unseen();
    town();
    draws();
    acts();
    limitsOfActs();
    undoing();
    images();
    nobodyThere();
    accepted();
    atSixtyHours();
    remembered();
    fullHouse();
    System.out.println(wrong == 0 ? checks + " answers are as due" : wrong + " answers are not as due");
    if (wrong != 0) System.exit(1);
  }

  private static int led(EveningVow x, int i) {
    try {
      return x.led(i);
    } catch (NoSuchElementException e) {
      return -77;
    }
  }

  private static void newObject() {
    EveningVow x = new EveningVow();
    due("NONE", EveningVow.NONE, -1);
    due("trouble", x.trouble(), 0);
    due("fault", x.fault(), 0);
    due("where", x.where(), -1);
    for (int what = 0; what <= 13; what++) due("size " + what, x.size(what), 0);
    due("size -1", x.size(-1), -1);
    due("size 14", x.size(14), -1);
    due("led", led(x, 0), -77);
    refused(x, "guest", x.guest(0, 0), -1000, 1);
    refused(x, "drawn", x.drawn(0, 1), -1, 1);
    refused(x, "there", x.there(), -1, 1);
    refused(x, "leaving", x.leaving(), -1, 1);
    refused(x, "thereIn", x.thereIn(61), -1, 1);
    refused(x, "wantIn", x.wantIn(0, 61), -1000, 1);
    refused(x, "busiest", x.busiest(true), -1, 1);
    refused(x, "order", x.order(0), -1, 1);
    refused(x, "pull", x.pull(0), -1, 1);
    refused(x, "leavesIn", x.leavesIn(0), -1, 1);
    refused(x, "ends", x.ends(), -1, 1);
    refused(x, "last", x.last(), -1, 1);
    refused(x, "chain", x.chain(0), -1, 1);
    refused(x, "biggest", x.biggest(), -1, 1);
    refused(x, "undrawn", x.undrawn(0, 1), -1, 1);
    refused(x, "apart", x.apart(0), -1, 1);
    refused(x, "rounds", x.rounds(), -1, 1);
    refused(x, "byGrief", x.byGrief(41), -1, 1);
    refused(x, "tireFor", x.tireFor(61), -1, 1);
    refused(x, "endsWithout", x.endsWithout(0), -1, 1);
    refused(x, "holder", x.holder(), -1, 1);
    refused(x, "without", x.without(61), -1, 1);
    refused(x, "endsWithTale", x.endsWithTale(0), -1, 1);
    refused(x, "endsWithCup", x.endsWithCup(0), -1, 1);
    refused(x, "bestCup", x.bestCup(), -1, 1);
    refused(x, "soonest", x.soonest(), -1, 1);
    refused(x, "taleAt", x.taleAt(0), -1, 1);
    refused(x, "latest", x.latest(), -1, 1);
    refused(x, "cupsFor", x.cupsFor(61), -1, 1);
    refused(x, "cupsTo", x.cupsTo(0), -1, 1);
    refused(x, "ways", x.ways(), -1, 1);
    refused(x, "wayAt", x.wayAt(0), -1, 1);
    refused(x, "judge", x.judge(), -1, 1);
    refused(x, "pays", x.pays(100), -1, 1);
    refused(x, "paid", x.paid(), -1, 1);
    refused(x, "house", x.house(7, 0, false), -100, 1);
    refused(x, "rests", x.rests(), -1, 1);
    refused(x, "rest", x.rest(), -1, 1);
    refused(x, "endsBy", x.endsBy(-1), -1, 1);
    refused(x, "mean", x.mean(-1, 0, true), -1, 1);
    refused(x, "often", x.often(-1, 0, 0), -1, 1);
    refused(x, "keeps", x.keeps(0, -1, 0), -1, 1);
    refused(x, "hour", x.hour(), -1, 1);
    refused(x, "tell", x.tell(0), -1, 1);
    refused(x, "cup", x.cup(0), -1000, 1);
    refused(x, "send", x.send(0), -1, 1);
    refused(x, "image", x.image(), -1, 1);
    due("undo", x.undo(), false);
    due("undo: trouble", x.trouble(), 6);
    due("back", x.back(0), false);
    due("back: trouble", x.trouble(), 1);
  }

  private static void tape() {
    EveningVow x = new EveningVow();
    for (int i = 1; i <= 40; i++) due("feed " + i, x.feed(0x20202020, 0x20202020, 0x20202020, 0x20202020, 0x20202020), 20 * i);
    due("feed beyond 800", x.feed(0, 0, 0, 0, 0), -1);
    due("tape", x.size(13), 800);
    refused(x, "801 of 800 bytes", x.evening(801), -1, 2);
    refused(x, "-1 bytes", x.evening(-1), -1, 2);
    due("the tape stays", x.size(13), 800);
    refused(x, "blanks alone", x.evening(800), -1, 4);
    due("the end is no LINE", x.fault(), 1);
    due("where", x.where(), 800);
    due("the tape is empty", x.size(13), 0);
    x.feed(0, 0, 0, 0, 0);
    due("feed is no call that may be refused", x.trouble(), 4);
    due("where still", x.where(), 800);
    refused(x, "21 of 20 bytes", x.evening(21), -1, 2);
    due("the fault of the one before", x.fault(), 1);
    due("where, refused by 2", x.where(), -1);
    refused(x, "no bytes", x.evening(0), -1, 4);
    due("no bytes: fault", x.fault(), 1);
    due("no bytes: where", x.where(), 0);
    // the highest byte of each number comes first: "evening " is 0x6576656e 0x696e6720
    x.feed(0x6576656e, 0x696e6720, 0x7b202020, 0x20202020, 0x20202020);
    x.evening(20);
    due("order of bytes", x.where(), 8);
    // what is behind the first n bytes is no part of the text: neither the 2 of 12 nor the letters behind it
    String text = "evening cups 0 wakes 1 grief 0;guest a plain want 3 sinks 12zz";
    Texts.feed(x, text);
    due("a part of the tape", x.evening(text.length() - 3), 1);
    due("it sinks by 1", x.wantIn(0, 1), 2);
    Texts.feed(x, text);
    x.evening(text.length() - 6);
    due("a word cut short", x.where(), text.length() - 10);
    x.feed(0xff000000, 0, 0, 0, 0x80000000);
    x.evening(20);
    due("a byte above 127", x.where(), 0);
  }

  private static void evening() {
    EveningVow x = of(HOUSE);
    due("guests", x.size(3), 4);
    due("trouble", x.trouble(), 0);
    due("fault", x.fault(), 0);
    due("cups", x.size(0), 1);
    due("wakes", x.size(1), 10);
    due("grief", x.size(2), 5);
    due("pairs", x.size(4), 1);
    due("draws", x.size(5), 1);
    due("tales", x.size(6), 2);
    due("needs", x.size(7), 2);
    due("seen and gone", x.size(8), 2);
    x.hour();
    x.image();
    x.cup(0);
    refused(x, "a fault", Texts.tell(x, "evening cups 9"), -1, 4);
    due("the evening stays", x.size(3), 4);
    due("the hour stays", x.size(9), 1);
    due("the acts stay", x.size(11), 2);
    due("the image stays", x.size(12), 1);
    due("told anew", Texts.tell(x, SHORT), 1);
    due("fault", x.fault(), 0);
    due("where", x.where(), -1);
    due("hour 0", x.size(9), 0);
    due("nothing to undo", x.size(11), 0);
    due("no images", x.size(12), 0);
    due("nothing of the old one", x.size(4) + x.size(5) + x.size(6) + x.size(7) + x.size(8), 0);
    due("all cups", x.size(0), 0);
    due("back to no image", x.back(0), false);
  }

  private static void guests() {
    EveningVow x = of(HOUSE);
    for (int g = 0; g < 4; g++) due("kind of " + g, x.guest(g, 0), new int[] {0, 0, 1, 2}[g]);
    due("homeless", of(ENDLESS).guest(0, 0), 3);
    due("want", x.guest(3, 1), 3);
    due("will", x.guest(3, 2), 5);
    due("there", x.guest(3, 3), 1);
    due("left", x.guest(3, 4), -2);
    due("pair", x.guest(0, 5), 1);
    due("pair", x.guest(1, 5), 0);
    due("no pair", x.guest(2, 5), -2);
    refused(x, "guest 4", x.guest(4, 0), -1000, 1);
    refused(x, "guest -1", x.guest(-1, 0), -1000, 1);
    refused(x, "what 6", x.guest(0, 6), -1000, 1);
    refused(x, "what -1", x.guest(0, -1), -1000, 1);
    due("drawn", x.drawn(3, 0), 2);
    due("drawn, the other way", x.drawn(0, 3), 0);
    refused(x, "drawn by himself", x.drawn(3, 3), -1, 1);
    refused(x, "drawn by nobody", x.drawn(3, 4), -1, 1);
    due("pull", x.pull(0), 2);
    due("pull of d", x.pull(3), 0);
    refused(x, "pull of nobody", x.pull(4), -1, 1);
    x.hour();
    x.hour();
    due("will without a", x.guest(3, 2), 3);
    due("not there", x.guest(0, 3), 0);
    due("left at 2", x.guest(0, 4), 2);
    due("the pair is still told", x.guest(0, 5), 1);
    due("draws d, who is there", x.pull(0), 2);
    x.send(3);
    due("draws nobody there", x.pull(0), 0);
    due("will, if he were there", x.guest(3, 2), 3);
  }

  private static void going() {
    EveningVow x = of(HOUSE);
    due("there", x.there(), 15);
    due("leaving in hour 1", x.leaving(), 0);
    due("rounds in hour 1", x.rounds(), 0);
    due("thereIn 0", x.thereIn(0), 15);
    due("thereIn 1", x.thereIn(1), 15);
    due("thereIn 2", x.thereIn(2), 8);
    due("thereIn 6", x.thereIn(6), 8);
    due("thereIn 7", x.thereIn(7), 0);
    due("thereIn 60", x.thereIn(60), 0);
    refused(x, "thereIn 61", x.thereIn(61), -1, 2);
    refused(x, "thereIn -1", x.thereIn(-1), -1, 2);
    due("a has no grief for b, who left with him", x.wantIn(0, 2), 0);
    due("b has no grief for a, who left with him", x.wantIn(1, 2), 0);
    due("c waits for somebody", x.wantIn(2, 2), -1);
    due("wants of those who left don't sink", x.wantIn(2, 60), -1);
    due("d is hired", x.wantIn(3, 6), 3);
    due("d is hired till hour 6", x.wantIn(3, 7), 0);
    refused(x, "wantIn 61", x.wantIn(0, 61), -1000, 2);
    refused(x, "wantIn of nobody", x.wantIn(4, 61), -1000, 1);
    due("busiest", x.busiest(false), 1);
    due("busiest hour", x.busiest(true), 2);
    for (int i = 0; i < 4; i++) due("order " + i, x.order(i), i);
    due("order 4", x.order(4), -2);
    refused(x, "order -1", x.order(-1), -1, 1);
    due("leavesIn a", x.leavesIn(0), 2);
    due("leavesIn d", x.leavesIn(3), 7);
    refused(x, "leavesIn nobody", x.leavesIn(4), -1, 1);
    due("ends", x.ends(), 7);
    due("last", x.last(), 8);
    due("nothing was done", x.size(9) + x.size(11), 0);
    x.hour();
    due("leaving in hour 2", x.leaving(), 7);
    due("rounds in hour 2", x.rounds(), 2);
    due("ends from now", x.ends(), 6);
    due("busiest hour from now", x.busiest(true), 1);
    x.hour();
    due("a has left", x.leavesIn(0), 0);
    due("order from now", x.order(0), 3);
    due("order 1 from now", x.order(1), -2);
    x = of(ENDLESS);
    due("never", x.ends(), -2);
    due("never: last", x.last(), -2);
    due("never: leavesIn", x.leavesIn(0), -2);
    due("never: busiest", x.busiest(false), -2);
    due("never: order", x.order(0), -2);
    x = of("evening cups 0 wakes 1 grief 0;guest a plain want 60 sinks 1;guest b plain want 61 sinks 1");
    due("in 60", x.leavesIn(0), 60);
    due("not in 60", x.leavesIn(1), -2);
    due("ends not in 60", x.ends(), -2);
    x.hour();
    due("ends in 60", x.ends(), 60);
  }

  private static void chains() {
    EveningVow x = of(HOUSE);
    due("chain of a", x.chain(0), 3);
    due("chain of b", x.chain(1), 3);
    due("chain of c", x.chain(2), 4);
    due("chain of d", x.chain(3), 8);
    refused(x, "chain of nobody", x.chain(4), -1, 1);
    due("biggest", x.biggest(), 0);
    x.hour();
    due("c is waiting for somebody to leave", x.chain(3), 12);
    x.hour();
    refused(x, "chain of one who left", x.chain(0), -1, 5);
    due("biggest of those there", x.biggest(), 3);
    x.send(3);
    due("biggest of nobody", x.biggest(), -2);
    // b is drawn by a, c by b: a's chain goes on from round to round
    x = of("evening cups 0 wakes 1 grief 0;guest a plain want 9 sinks 1;guest b plain want 2 sinks 1;guest c plain want 2 sinks 1;draws b a by 3;draws c b by 3");
    x.hour();
    x.hour();
    due("chain by draws", x.chain(0), 7);
    due("chain by draws from b", x.chain(1), 6);
    due("biggest by draws", x.biggest(), 0);
    due("undrawn", x.undrawn(1, 0), 7);
    refused(x, "undrawn, who isn't", x.undrawn(0, 1), -1, 5);
    refused(x, "undrawn by himself", x.undrawn(1, 1), -1, 1);
    refused(x, "undrawn by nobody", x.undrawn(1, 3), -1, 1);
    due("drawn as ever", x.drawn(1, 0), 3);
    // a holds out till hour 13 for b's sake, c for a's, b for c's; with one draw less they go by hour 9
    x = of("evening cups 0 wakes 1 grief 0;guest a plain want 4 sinks 1;guest b plain want 7 sinks 1;guest c plain want 9 sinks 1;draws b c by 20;draws c a by 20;draws a b by 9");
    due("drawn in a ring", x.ends(), 13);
    due("undrawn b, c", x.undrawn(1, 2), 9);
    due("undrawn c, a", x.undrawn(2, 0), 9);
    due("undrawn a, b", x.undrawn(0, 1), 9);
    due("drawn in a ring as ever", x.ends(), 13);
    x = of("evening cups 0 wakes 1 grief 0;guest a homeless want 9 sinks 1;guest b plain want 2 sinks 1;draws a b by 5");
    due("undrawn: never", x.undrawn(0, 1), -2);
  }

  private static void holding() {
    EveningVow x = of("evening cups 0 wakes 1 grief 9;guest a plain want 2 sinks 1;guest b plain want 8 sinks 1;guest c plain want 3 sinks 1;pair a b");
    due("ends", x.ends(), 3);
    due("apart", x.apart(0), 8);
    due("apart, the other one", x.apart(1), 8);
    refused(x, "apart, in no pair", x.apart(2), -1, 5);
    refused(x, "apart, nobody", x.apart(3), -1, 1);
    due("still a pair", x.guest(1, 5), 0);
    due("byGrief 9", x.byGrief(9), 3);
    due("byGrief 0", x.byGrief(0), 8);
    due("byGrief 3", x.byGrief(3), 5);
    due("byGrief 40", x.byGrief(40), 3);
    refused(x, "byGrief 41", x.byGrief(41), -1, 2);
    refused(x, "byGrief -1", x.byGrief(-1), -1, 2);
    due("grief as ever", x.size(2), 9);
    due("tireFor 3", x.tireFor(3), 0);
    due("tireFor 2", x.tireFor(2), 1);
    due("tireFor 1", x.tireFor(1), 2);
    due("tireFor 0", x.tireFor(0), -2);
    refused(x, "tireFor 61", x.tireFor(61), -1, 2);
    due("endsWithout a", x.endsWithout(0), 3);
    due("endsWithout b", x.endsWithout(1), 3);
    due("endsWithout c", x.endsWithout(2), 2);
    refused(x, "endsWithout nobody", x.endsWithout(3), -1, 1);
    due("holder", x.holder(), 2);
    due("without 60", x.without(60), 0);
    due("without 2", x.without(2), 4);
    due("without 1", x.without(1), 5);
    due("without 0", x.without(0), 5);
    refused(x, "without 61", x.without(61), -1, 2);
    refused(x, "without -1", x.without(-1), -1, 2);
    x.send(0);
    refused(x, "endsWithout one who left", x.endsWithout(0), -1, 5);
    due("the pair's other one left, too", x.there(), 4);
    x = of(SHORT);
    due("holder alone", x.holder(), 0);
    x = of("evening cups 0 wakes 1 grief 0;guest a plain want 5 sinks 1;guest b plain want 5 sinks 1");
    due("no holder", x.holder(), -2);
    due("like ones, the least bits", x.without(0), 3);
    x = of("evening cups 0 wakes 1 grief 0;guest a homeless want 99 sinks 1;guest b plain want 5 sinks 1");
    due("tireFor with 99", x.tireFor(5), 99);
    x.cup(0);
    x = of("evening cups 4 wakes 30 grief 0;guest a homeless want 99 sinks 1");
    for (int i = 0; i < 4; i++) x.cup(0);
    due("tireFor beyond 200", x.tireFor(5), -2);
    due("without him", x.without(60), 1);
    due("endsWithout him", x.endsWithout(0), 0);
  }

  private static void tales() {
    EveningVow x = of(HOUSE);
    due("endsWithTale t", x.endsWithTale(0), 7);
    due("endsWithTale u", x.endsWithTale(1), 1);
    refused(x, "endsWithTale 2", x.endsWithTale(2), -1, 1);
    due("soonest", x.soonest(), 1);
    due("taleAt 0", x.taleAt(0), 1);
    refused(x, "taleAt 1", x.taleAt(1), -1, 1);
    refused(x, "taleAt -1", x.taleAt(-1), -1, 1);
    due("tell", x.tell(0), 7);
    refused(x, "endsWithTale told", x.endsWithTale(0), -1, 5);
    due("soonest, behind a tale", x.soonest(), 1);
    due("led", led(x, 0), 0);
    due("led 1", led(x, 1), -77);
    due("led -1", led(x, -1), -77);
    // each tale takes 2 off: the long ones end it no sooner, and of like rows the shortest, then the first is told
    x = of("evening cups 0 wakes 1 grief 0;guest a plain want 6 sinks 1;tale p hours 3 tires 2;tale q hours 1 tires 2;tale r hours 1 tires 2");
    due("endsWithTale p", x.endsWithTale(0), 4);
    due("endsWithTale q", x.endsWithTale(1), 4);
    due("soonest", x.soonest(), 2);
    due("taleAt 0", x.taleAt(0), 1);
    due("taleAt 1", x.taleAt(1), 2);
    refused(x, "taleAt 2", x.taleAt(2), -1, 1);
    x = of("evening cups 0 wakes 1 grief 0;guest a plain want 1 sinks 1;tale p hours 3 tires 30");
    due("not ahead of its end", x.endsWithTale(0), 3);
    due("no tale is sooner", x.soonest(), 1);
    refused(x, "an empty row", x.taleAt(0), -1, 1);
    due("the tale goes on with nobody there", x.tell(0), 1);
    due("three hours", x.size(9), 3);
    due("left at 1", x.guest(0, 4), 1);
    due("paid by the hour now", x.paid(), 0);
    x = of(ENDLESS);
    due("never by tales", x.soonest(), -2);
    refused(x, "no row", x.taleAt(0), -1, 6);
    due("never by a tale", x.endsWithTale(0), -2);
    x.tell(1);
    x.tell(0);
    due("led by numbers", led(x, 0), 0);
    due("led by numbers", led(x, 1), 1);
    due("led beyond", led(x, 2), -77);
    x = of("evening cups 0 wakes 1 grief 0;guest a plain want 61 sinks 1;tale p hours 3 tires 0;tale q hours 2 tires 1");
    due("not in 60 by p", x.endsWithTale(0), -2);
    due("in 60 by q", x.endsWithTale(1), 60);
  }

  private static void cups() {
    EveningVow x = of("evening cups 3 wakes 4 grief 0;guest a plain want 8 sinks 2;guest b plain want 8 sinks 2;guest c plain want 1 sinks 1;draws a c by 6");
    due("ends", x.ends(), 4);
    due("endsWithCup a", x.endsWithCup(0), 6);
    due("endsWithCup c: then a is drawn no more", x.endsWithCup(2), 5);
    refused(x, "endsWithCup nobody", x.endsWithCup(3), -1, 1);
    due("bestCup", x.bestCup(), 0);
    // c with one cup stays till hour 5, with two till 9 and with three till 13
    due("latest", x.latest(), 13);
    due("cupsTo a", x.cupsTo(0), 0);
    due("cupsTo b", x.cupsTo(1), 0);
    due("cupsTo c", x.cupsTo(2), 3);
    refused(x, "cupsTo nobody", x.cupsTo(3), -1, 1);
    due("cupsFor 0", x.cupsFor(0), 0);
    due("cupsFor 4", x.cupsFor(4), 0);
    due("cupsFor 5", x.cupsFor(5), 1);
    due("cupsFor 13", x.cupsFor(13), 3);
    due("cupsFor 14", x.cupsFor(14), -2);
    refused(x, "cupsFor 61", x.cupsFor(61), -1, 2);
    due("cup", x.cup(2), 5);
    due("cups now", x.size(0), 2);
    due("latest by two", x.latest(), 13);
    due("cupsTo c now", x.cupsTo(2), 2);
    x.cup(2);
    x.cup(2);
    due("no cups, and none is best", x.cupsTo(2), 0);
    due("endsWithCup, whether there is one", x.endsWithCup(2), 17);
    refused(x, "no cup", x.cup(2), -1000, 6);
    refused(x, "a cup to nobody", x.cup(3), -1000, 1);
    x = of("evening cups 2 wakes 4 grief 0;guest a plain want 8 sinks 2;guest b plain want 8 sinks 2;guest c plain want 20 sinks 1");
    due("like ones: fewest cups", x.latest(), 28);
    due("all to c", x.cupsTo(2), 2);
    x = of("evening cups 1 wakes 1 grief 0;guest a plain want 8 sinks 2;guest b plain want 8 sinks 2");
    due("by a cup", x.latest(), 5);
    due("the less to the first", x.cupsTo(0), 0);
    due("the more to the last", x.cupsTo(1), 1);
    due("bestCup, the first", x.bestCup(), 0);
    x = of("evening cups 1 wakes 1 grief 0;guest a plain want 8 sinks 3;guest b plain want 9 sinks 3");
    due("a cup to b", x.latest(), 4);
    due("a cup to b alone", x.cupsTo(1), 1);
    x = of("evening cups 4 wakes 1 grief 0;guest a plain want 6 sinks 6");
    due("one is as good as four", x.latest(), 2);
    due("fewest", x.cupsTo(0), 1);
    x = of(ENDLESS);
    due("never", x.latest(), -2);
    refused(x, "never: cupsTo", x.cupsTo(0), -1, 6);
    due("never: cupsFor", x.cupsFor(60), 0);
    due("never: bestCup", x.bestCup(), 0);
    due("never: endsWithCup", x.endsWithCup(0), -2);
  }

  private static void unseen() {
    EveningVow x = of(HOUSE);
    due("judge", x.judge(), -2);
    // a cup to a keeps a till hour 12, but b and c leave all the same at hour 2; one to c keeps c
    due("no cup", x.wayAt(0), -2);
    due("hour 0 to a", x.wayAt(1), 0);
    due("hour 0 to b", x.wayAt(2), 1);
    due("hour 0 to d", x.wayAt(3), 3);
    due("hour 1 to a", x.wayAt(4), 10);
    due("hour 1 to b", x.wayAt(5), 11);
    due("hour 1 to d", x.wayAt(6), 13);
    due("hour 2 to d", x.wayAt(7), 23);
    due("hour 6 to d", x.wayAt(11), 63);
    due("ways", x.ways(), 12);
    refused(x, "wayAt 12", x.wayAt(12), -1, 1);
    refused(x, "wayAt -1", x.wayAt(-1), -1, 1);
    x.hour();
    x.send(3);
    due("from the beginning, as told", x.ways(), 12);
    due("judge, as told", x.judge(), -2);
    x = of(SHORT.replace("wakes 1", "wakes 3") + ";seen a hour 2;seen a hour 3;gone a hour 4");
    due("the first that isn't so", x.judge(), 1);
    due("ways", x.ways(), 3);
    due("at hour 0", x.wayAt(0), 0);
    due("at hour 1", x.wayAt(1), 10);
    due("at hour 2", x.wayAt(2), 20);
    x = of(SHORT + ";gone a hour 0");
    due("all are there at hour 0", x.judge(), 0);
    due("no way", x.ways(), 0);
    refused(x, "no way", x.wayAt(0), -1, 1);
    due("cups by 31 hours, and none", of(ENDLESS).ways(), 32);
    due("the latest of them", of(ENDLESS).wayAt(31), 300);
  }

  private static void town() {
    EveningVow x = of(HOUSE);
    due("pays 0", x.pays(0), 8);
    due("pays 2", x.pays(2), 8);
    due("pays 3", x.pays(3), 1);
    due("pays 7", x.pays(7), 1);
    due("pays 8", x.pays(8), 0);
    due("pays 99", x.pays(99), 0);
    refused(x, "pays 100", x.pays(100), -1, 2);
    refused(x, "pays -1", x.pays(-1), -1, 2);
    due("paid", x.paid(), 1);
    x.hour();
    due("paid by the hour at which it ends", x.paid(), 1);
    x.send(3);
    due("paid, if it ends at 1", x.paid(), 8);
    due("paid never", of(ENDLESS + ";need n by 30 pays 5").paid(), 0);
    due("house 3 2", x.house(3, 2, false), 3);
    due("house 3 2 of other", x.house(3, 2, true), -8);
    due("house 2 3", x.house(2, 3, false), -8);
    due("house 6 0", x.house(6, 0, false), -6);
    due("house 0 6 of other", x.house(0, 6, true), -6);
    due("house 0 6", x.house(0, 6, false), 0);
    due("house 4 4", x.house(4, 4, false), -4);
    due("house 4 4 of other", x.house(4, 4, true), -4);
    refused(x, "house 7", x.house(7, 0, false), -100, 2);
    refused(x, "house other 7", x.house(0, 7, false), -100, 2);
    refused(x, "house -1", x.house(-1, 0, true), -100, 2);
    due("rests", x.rests(), 1);
    due("rest", x.rest(), 0);
  }

  /** From 0 the draws are 74, 5624, 28652, 51790, 17641, 12409: mod 5 they are 4, 4, 2, 0, 1, 4. */
  private static void draws() {
    EveningVow x = of(SHORT);
    due("endsBy 0", x.endsBy(0), 2);
    due("endsBy 5624", x.endsBy(5624), 4);
    due("endsBy 65536, which becomes 65536 again", x.endsBy(65536), 5);
    refused(x, "endsBy 65537", x.endsBy(65537), -1, 2);
    refused(x, "endsBy -1", x.endsBy(-1), -1, 2);
    due("mean of one", x.mean(0, 1, false), 2);
    due("mean of one, lower", x.mean(0, 1, true), 1);
    due("mean of two", x.mean(0, 2, false), 3);
    due("mean of two, lower", x.mean(0, 2, true), 1);
    refused(x, "mean of none", x.mean(0, 0, true), -1, 2);
    refused(x, "mean of 91", x.mean(0, 91, true), -1, 2);
    refused(x, "mean by a bad seed", x.mean(65537, 1, true), -1, 2);
    due("often in 2", x.often(0, 2, 2), 1);
    due("often in 1", x.often(0, 2, 1), 0);
    due("often in 4", x.often(0, 2, 4), 2);
    refused(x, "often of 91", x.often(0, 91, 4), -1, 2);
    refused(x, "often in 61", x.often(0, 2, 61), -1, 2);
    due("keeps", x.keeps(0, 0, 2), 2);
    refused(x, "keeps of nobody", x.keeps(1, 0, 0), -1, 1);
    refused(x, "keeps of none", x.keeps(0, 0, 0), -1, 2);
    due("nothing was done", x.ends(), 3);
    // a and b draw in turn: a by 74 and 28652, b by 5624
    x = of("evening cups 0 wakes 1 grief 0;guest a plain want 5 sinks 2;guest h hired want 1 sinks 2;guest b plain want 1 sinks 2");
    due("guest by guest: only the hired one is left", x.often(0, 1, 6), 0);
    x.send(1);
    due("guest by guest", x.endsBy(0), 2);
    due("a keeps it", x.keeps(0, 0, 1), 1);
    due("b doesn't", x.keeps(2, 0, 1), 0);
    x = of(ENDLESS);
    due("never", x.endsBy(7), -2);
    due("never: mean", x.mean(7, 90, false), 0);
    due("never: mean, lower", x.mean(7, 90, true), 1);
    due("never: often", x.often(7, 90, 60), 0);
    due("never: keeps", x.keeps(0, 7, 90), 0);
  }

  private static void acts() {
    EveningVow x = of(HOUSE);
    due("hour", x.hour(), 0);
    due("hour 2", x.hour(), 7);
    due("it is 2", x.size(9), 2);
    due("one is there", x.size(10), 1);
    due("two acts", x.size(11), 2);
    refused(x, "a cup to one who left", x.cup(0), -1000, 5);
    refused(x, "one who left", x.send(0), -1, 5);
    refused(x, "nobody", x.send(4), -1, 1);
    refused(x, "no such tale", x.tell(2), -1, 1);
    due("a cup to d", x.cup(3), 13);
    due("no cups", x.size(0), 0);
    due("refused acts are none", x.size(11), 3);
    due("send", x.send(3), 8);
    refused(x, "an hour for nobody", x.hour(), -1, 6);
    refused(x, "a tale for nobody", x.tell(0), -1, 6);
    x = of(HOUSE);
    due("send a: b grieves", x.send(0), 3);
    due("want of b", x.guest(1, 1), -1);
    due("left at 0", x.guest(1, 4), 0);
    x = of(HOUSE);
    due("u tires all, and d is hired", x.tell(1), 15);
    refused(x, "u again", x.tell(1), -1, 5);
    x = of("evening cups 0 wakes 1 grief 0;guest c polite want 1 sinks 1");
    due("a polite one alone stays", x.hour(), 0);
    due("for ever", x.ends(), -2);
    due("unless he's sent", x.send(0), 1);
  }

  private static void limitsOfActs() {
    EveningVow x = of(ENDLESS);
    for (int h = 1; h <= 97; h++) due("hour " + h, x.hour(), 0);
    refused(x, "a tale of 3 at 97", x.tell(0), -1, 3);
    due("a tale of 2 at 97", x.tell(1), 0);
    due("hour 99", x.size(9), 99);
    refused(x, "99 went by", x.hour(), -1, 3);
    refused(x, "told, and above 99", x.tell(1), -1, 3);
    due("asked beyond 99", x.thereIn(60), 1);
    due("sent home at 99", x.send(0), 1);
    refused(x, "99 went by, nobody is there", x.hour(), -1, 3);
    due("left at 99", x.guest(0, 4), 99);
  }

  private static void undoing() {
    EveningVow x = of(HOUSE);
    due("nothing to undo", x.undo(), false);
    due("nothing to undo: trouble", x.trouble(), 6);
    x.cup(0);
    x.tell(0);
    x.send(3);
    due("undo send", x.undo(), true);
    due("trouble", x.trouble(), 0);
    due("d is there", x.guest(3, 4), -2);
    due("undo tell", x.undo(), true);
    due("hour 0", x.size(9), 0);
    due("not told", led(x, 0), -77);
    due("tell may be told", x.endsWithTale(1), x.endsWithTale(1));
    due("want with the cup", x.guest(0, 1), 12);
    due("undo cup", x.undo(), true);
    due("want as told", x.guest(0, 1), 2);
    due("all cups", x.size(0), 1);
    due("all undone", x.undo(), false);
    x = of(ENDLESS);
    for (int h = 1; h <= 20; h++) x.hour();
    due("16 are kept", x.size(11), 16);
    for (int h = 1; h <= 16; h++) due("undo " + h, x.undo(), true);
    due("hour 4", x.size(9), 4);
    due("no more", x.undo(), false);
    due("hour 4 still", x.size(9), 4);
    due("searches behind undo", x.latest(), -2);
    x = of(SHORT.replace("cups 0", "cups 2"));
    due("latest", x.latest(), 4);
    x.hour();
    due("latest an hour later", x.latest(), 3);
    x.undo();
    due("latest again", x.latest(), 4);
  }

  private static void images() {
    EveningVow x = of(HOUSE);
    due("image 0", x.image(), 0);
    x.hour();
    due("image 1", x.image(), 1);
    x.cup(2);
    due("image 2", x.image(), 2);
    refused(x, "image 3", x.image(), -1, 3);
    due("images", x.size(12), 3);
    due("back to 0", x.back(0), true);
    due("trouble", x.trouble(), 0);
    due("hour 0", x.size(9), 0);
    due("all cups", x.size(0), 1);
    due("nothing can be undone", x.size(11), 0);
    due("undo", x.undo(), false);
    due("all images stay", x.size(12), 3);
    due("soonest", x.soonest(), 1);
    due("back to 2", x.back(2), true);
    due("hour 1", x.size(9), 1);
    due("no cups", x.size(0), 0);
    due("want of c", x.guest(2, 1), 10);
    x.hour();
    due("an act can be undone", x.undo(), true);
    due("hour 1 again", x.size(9), 1);
    due("back to 3", x.back(3), false);
    due("back to 3: trouble", x.trouble(), 1);
    due("back to -1", x.back(-1), false);
    x.send(0);
    x.back(1);
    due("an image isn't changed by acts", x.there(), 15);
  }

  private static void nobodyThere() {
    EveningVow x = of(HOUSE);
    for (int g = 0; g < 4; g++) x.send(g);
    due("nobody", x.there(), 0);
    due("ends", x.ends(), 0);
    due("last", x.last(), 0);
    due("leaving", x.leaving(), 0);
    due("rounds", x.rounds(), 0);
    due("thereIn", x.thereIn(60), 0);
    due("busiest", x.busiest(true), -2);
    due("order", x.order(0), -2);
    due("biggest", x.biggest(), -2);
    due("holder", x.holder(), -2);
    due("without", x.without(0), 0);
    due("tireFor", x.tireFor(0), 0);
    due("bestCup", x.bestCup(), -2);
    due("soonest", x.soonest(), 0);
    refused(x, "taleAt", x.taleAt(0), -1, 1);
    due("endsWithTale", x.endsWithTale(0), 3);
    due("latest", x.latest(), 0);
    due("cupsFor 0", x.cupsFor(0), 0);
    due("cupsFor 1", x.cupsFor(1), -2);
    due("cupsTo", x.cupsTo(0), 0);
    due("apart", x.apart(0), 0);
    due("undrawn", x.undrawn(3, 0), 0);
    due("byGrief", x.byGrief(0), 0);
    due("endsBy", x.endsBy(0), 0);
    due("mean", x.mean(0, 90, false), 0);
    due("mean, lower", x.mean(0, 90, true), 1);
    due("often", x.often(0, 90, 0), 90);
    due("keeps", x.keeps(0, 0, 90), 0);
    due("paid", x.paid(), 8);
  }

  private interface Call {
    void on(EveningVow x);
  }

  /** Behind a refused call, one that isn't refused leaves no trouble. */
  private static void accepted() {
    Call[] calls = {
      x -> Texts.tell(x, SHORT), x -> x.guest(0, 0), x -> x.drawn(3, 0), x -> x.there(), x -> x.leaving(), x -> x.thereIn(0), x -> x.wantIn(0, 0),
      x -> x.busiest(true), x -> x.order(0), x -> x.pull(0), x -> x.leavesIn(0), x -> x.ends(), x -> x.last(), x -> x.chain(0),
      x -> x.biggest(), x -> x.undrawn(3, 0), x -> x.apart(0), x -> x.rounds(), x -> x.byGrief(0), x -> x.tireFor(60), x -> x.endsWithout(0),
      x -> x.holder(), x -> x.without(60), x -> x.endsWithTale(0), x -> x.endsWithCup(0), x -> x.bestCup(), x -> x.soonest(),
      x -> x.taleAt(0), x -> x.latest(), x -> x.cupsFor(60), x -> x.cupsTo(0), x -> x.ways(), x -> x.wayAt(0), x -> x.judge(),
      x -> x.pays(99), x -> x.paid(), x -> x.house(6, 6, true), x -> x.rests(), x -> x.rest(), x -> x.endsBy(65536),
      x -> x.mean(65536, 90, true), x -> x.often(65536, 90, 60), x -> x.keeps(0, 65536, 90), x -> x.hour(), x -> x.tell(0), x -> x.cup(0),
      x -> x.send(0), x -> { x.hour(); x.guest(9, 9); x.undo(); }, x -> x.image(), x -> { x.image(); x.guest(9, 9); x.back(0); }
    };
    for (int i = 0; i < calls.length; i++) {
      EveningVow x = of(HOUSE);
      refused(x, "refused", x.guest(9, 9), -1000, 1);
      calls[i].on(x);
      due("call " + i + " leaves no trouble", x.trouble(), 0);
    }
    EveningVow x = of(HOUSE);
    x.guest(9, 9);
    x.feed(0, 0, 0, 0, 0);
    x.fault();
    x.where();
    x.size(0);
    x.size(99);
    led(x, 9);
    due("those that are refused by no number leave the trouble", x.trouble(), 1);
  }

  private static void atSixtyHours() {
    EveningVow x = of("evening cups 4 wakes 1 grief 0;guest a plain want 60 sinks 1;guest b plain want 60 sinks 1;tale t hours 3 tires 1");
    due("ends", x.ends(), 60);
    due("last", x.last(), 3);
    due("order 1", x.order(1), 1);
    due("busiest", x.busiest(true), 60);
    due("busiest, there", x.busiest(false), 0);
    due("endsWithout", x.endsWithout(0), 60);
    due("without", x.without(60), 0);
    due("tireFor", x.tireFor(60), 0);
    due("wantIn 0", x.wantIn(0, 0), 60);
    due("wantIn 60", x.wantIn(0, 60), 0);
    due("endsWithCup", x.endsWithCup(0), -2);
    due("latest", x.latest(), -2);
    due("cupsFor", x.cupsFor(60), 0);
    due("paid", of("evening cups 0 wakes 1 grief 0;guest a plain want 60 sinks 1;need n by 30 pays 1").paid(), 0);
    x = of("evening cups 1 wakes 1 grief 0;guest a plain want 59 sinks 1;guest b homeless want 9 sinks 1;need n by 30 pays 1");
    due("never, for b", x.ends(), -2);
    due("holder: without b it ends", x.holder(), 1);
    due("holder: without b it ends in 60", of("evening cups 1 wakes 1 grief 0;guest a plain want 60 sinks 1;guest b homeless want 9 sinks 1").holder(), 1);
    due("holder: nor without b", of("evening cups 1 wakes 1 grief 0;guest a plain want 61 sinks 1;guest b homeless want 9 sinks 1").holder(), -2);
    x.send(1);
    due("latest 60", x.latest(), 60);
    due("cupsTo at 60", x.cupsTo(0), 1);
    due("cupsFor 60", x.cupsFor(60), 1);
    due("endsWithCup 60", x.endsWithCup(0), 60);
    due("soonest by no tale", x.soonest(), 59);
    x = of("evening cups 0 wakes 1 grief 0;guest a plain want 61 sinks 1;tale t hours 3 tires 1");
    due("soonest 60", x.soonest(), 60);
    due("taleAt 60", x.taleAt(0), 0);
    due("endsWithTale 60", x.endsWithTale(0), 60);
    x = of("evening cups 4 wakes 30 grief 0;guest a homeless want 80 sinks 1");
    for (int i = 0; i < 4; i++) x.cup(0);
    due("tireFor 200", x.tireFor(1), 200);
    // 65536 draws itself for ever, 1 mod 5 and 1 mod 3: both sink by 1 an hour
    x = of("evening cups 0 wakes 1 grief 0;guest a plain want 60 sinks 2;guest b plain want 59 sinks 2");
    due("endsBy 60", x.endsBy(65536), 60);
    due("mean 60", x.mean(65536, 3, false), 60);
    due("often 60", x.often(65536, 3, 60), 3);
    due("often 59", x.often(65536, 3, 59), 0);
    due("keeps at 60", x.keeps(0, 65536, 3), 3);
    due("not last", x.keeps(1, 65536, 3), 0);
    x = of("evening cups 0 wakes 1 grief 0;guest a plain want 61 sinks 2");
    due("endsBy, not in 60", x.endsBy(65536), -2);
    x = of(SHORT);
    // from 28652 they end in 3, 2, 3 and 2 hours
    due("mean of 2", 10 * x.mean(28652, 2, false) + x.mean(28652, 2, true), 52);
    due("mean of 3", 10 * x.mean(28652, 3, false) + x.mean(28652, 3, true), 83);
    due("mean of 4, in lowest terms", 10 * x.mean(28652, 4, false) + x.mean(28652, 4, true), 52);
  }

  /** What a search found is not kept beyond what it was asked of. */
  private static void remembered() {
    EveningVow x = of("evening cups 1 wakes 4 grief 0;guest a plain want 5 sinks 2;tale t hours 1 tires 30;seen a hour 2");
    due("soonest", x.soonest(), 1);
    due("taleAt", x.taleAt(0), 0);
    due("latest", x.latest(), 5);
    due("ways", x.ways(), 4);
    x.image();
    x.tell(0);
    due("soonest behind", x.soonest(), 0);
    due("latest behind", x.latest(), 0);
    refused(x, "taleAt behind", x.taleAt(0), -1, 1);
    x.back(0);
    due("soonest by the image", x.soonest(), 1);
    due("latest by the image", x.latest(), 5);
    x.cup(0);
    due("latest without a cup", x.latest(), 5);
    due("cupsTo without a cup", x.cupsTo(0), 0);
    due("cupsFor without a cup", x.cupsFor(5), 0);
    x.undo();
    due("cupsTo with it", x.cupsTo(0), 1);
    due("cupsFor with it", x.cupsFor(5), 1);
    Texts.tell(x, SHORT + ";seen a hour 3");
    due("another evening: ways", x.ways(), 0);
    due("another evening: judge", x.judge(), 0);
    due("another evening: soonest", x.soonest(), 3);
    due("another evening: latest", x.latest(), 3);
    Texts.tell(x, HOUSE);
    due("a third: taleAt without another call", x.taleAt(0), 1);
    Texts.tell(x, HOUSE);
    due("a fourth: cupsFor without another call", x.cupsFor(7), 0);
    Texts.tell(x, HOUSE);
    due("a fifth: cupsTo without another call", x.cupsTo(3), 1);
    Texts.tell(x, HOUSE);
    due("a sixth: wayAt without another call", x.wayAt(3), 3);
    due("often by its own seed", of(SHORT).often(5624, 1, 2), 0);
  }

  /** All that there is room for. */
  private static void fullHouse() {
    StringBuilder b = new StringBuilder("evening cups 4 wakes 1 grief 40");
    for (int g = 0; g < 7; g++) b.append(";guest g").append((char) ('a' + g)).append(" plain want 9 sinks 9");
    for (int g = 1; g < 7; g++) b.append(";draws g").append((char) ('a' + g)).append(" g").append((char) ('a' + g - 1)).append(" by 20");
    for (int t = 0; t < 4; t++) b.append(";tale t").append((char) ('a' + t)).append(" hours 3 tires 0");
    for (int n = 0; n < 5; n++) b.append(";need n").append((char) ('a' + n)).append(" by ").append(n).append(" pays 1");
    EveningVow x = of(b.toString());
    due("guests", x.there(), 127);
    due("they go one by one", x.rounds(), 7);
    due("all in an hour", x.leaving(), 127);
    due("chain of the first", x.chain(0), 1);
    due("by cups", x.latest(), 2);
    due("one is enough: the last one's", x.cupsTo(6), 1);
    due("the less to the first", x.cupsTo(0), 0);
    due("a cup to the first one holds all", x.endsWithCup(0), 2);
    due("the first such", x.bestCup(), 0);
    due("needs", x.pays(3), 2);
    for (int t = 3; t > 0; t--) due("tale " + t, x.endsWithTale(t), 3);
    due("no tale", x.soonest(), 1);
  }
}
