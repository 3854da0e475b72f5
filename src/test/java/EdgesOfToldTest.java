import java.util.List;
import java.util.NoSuchElementException;
import java.util.function.ToIntFunction;

/** Boundary cases of promises 55 to 57: tales told, sizes, trouble. */
public final class EdgesOfToldTest extends Edges {
  private static final String ONE = text(0, 1, 0, guest("a", "plain", 1, 1));

  public static void main(String[] args) {
    runAll(EdgesOfToldTest.class, 55, 57);
  }

  // ---- 55: led

  static void promise55_noneSuch() {
    EveningVow x = of(FULL);
    for (int i : new int[] {-1, 0, 1, 4, LEAST, MOST}) due("none is told, " + i, led(x, i), THROWN);
    x.tell(2);
    due("the only one", led(x, 0), 2);
    for (int i : new int[] {-1, 1, 4, LEAST, MOST}) due("one is told, " + i, led(x, i), THROWN);
    due("no EVENING", led(new EveningVow(), 0), THROWN);
  }

  static void promise55_theExceptionItself() {
    String thrown = "nothing";
    try {
      new EveningVow().led(0);
    } catch (RuntimeException e) {
      thrown = e.getClass().getName();
    }
    due(thrown, thrown.equals(NoSuchElementException.class.getName()), true);
  }

  static void promise55_byNumbersNotByHours() {
    EveningVow x = of(FULL);
    for (int t : new int[] {3, 0, 2, 1}) x.tell(t);
    for (int i = 0; i < 4; i++) due("all four, " + i, led(x, i), i);
    due("4", led(x, 4), THROWN);
    x.undo();
    x.undo();
    due("0 of two", led(x, 0), 0);
    due("1 of two", led(x, 1), 3);
    due("2 of two", led(x, 2), THROWN);
  }

  static void promise55_itLeavesTheTrouble() {
    EveningVow x = of(FULL);
    x.guest(9, 9);
    led(x, 0);
    due("trouble", x.trouble(), 1);
    x.tell(0);
    led(x, 9);
    due("trouble", x.trouble(), 0);
  }

  // ---- 56: size

  static void promise56_noneForOthers() {
    for (EveningVow x : new EveningVow[] {new EveningVow(), of(ONE)}) {
      for (int what : new int[] {-1, 14, 15, LEAST, MOST}) due("" + what, x.size(what), -1);
    }
  }

  static void promise56_0ForWhatThereIsnt() {
    EveningVow x = new EveningVow();
    for (int what = 0; what <= 13; what++) due("no EVENING, " + what, x.size(what), 0);
    Texts.tell(x, "evening cups 4 wakes 30 grief 40;guest a plain want 9 sinks 21");
    for (int what = 0; what <= 13; what++) due("none behind a FAULT, " + what, x.size(what), 0);
    x.feed(0, 0, 0, 0, 0);
    due("the tape is there", x.size(13), 20);
  }

  static void promise56_theLeast() {
    EveningVow x = of(ONE);
    int[] due = {0, 1, 0, 1, 0, 0, 0, 0, 0, 0, 1, 0, 0, 0};
    for (int what = 0; what <= 13; what++) due("" + what, x.size(what), due[what]);
  }

  static void promise56_theMost() {
    EveningVow x = of(FULL);
    hours(x, 99);
    for (int i = 0; i < 3; i++) x.image();
    for (int i = 0; i < 40; i++) x.feed(0, 0, 0, 0, 0);
    int[] due = {4, 30, 40, 7, 3, 8, 4, 5, 6, 99, 7, 16, 3, 800};
    for (int what = 0; what <= 13; what++) due("" + what, x.size(what), due[what]);
  }

  static void promise56_cupsAndGuestsNow() {
    EveningVow x = of(FULL);
    x.cup(0);
    due("cups", x.size(0), 3);
    x.send(6);
    due("there", x.size(10), 6);
    due("guests, as told", x.size(3), 7);
    for (int g = 0; g < 6; g++) x.send(g);
    due("nobody is there", x.size(10), 0);
    due("pairs, as told", x.size(4), 3);
  }

  static void promise56_itLeavesTheTrouble() {
    EveningVow x = of(ONE);
    x.undo();
    due("others", x.size(14), -1);
    due("trouble", x.trouble(), 6);
  }

  // ---- 57: trouble

  static void promise57_eachNumber() {
    EveningVow x = new EveningVow();
    due("0 of a new object", x.trouble(), 0);
    x.there();
    due("1", x.trouble(), 1);
    x.evening(1);
    due("2", x.trouble(), 2);
    Texts.tell(x, "evening");
    due("4", x.trouble(), 4);
    Texts.tell(x, ONE);
    due("0", x.trouble(), 0);
    for (int i = 0; i < 4; i++) x.image();
    due("3", x.trouble(), 3);
    x.apart(0);
    due("5", x.trouble(), 5);
    x.undo();
    due("6", x.trouble(), 6);
    x.there();
    due("0 again", x.trouble(), 0);
  }

  static void promise57_ofTheLatestCallThatMayBeRefused() {
    EveningVow x = of(ONE);
    x.thereIn(61);
    x.feed(0, 0, 0, 0, 0);
    x.fault();
    x.where();
    x.size(14);
    led(x, 0);
    x.trouble();
    due("2 still", x.trouble(), 2);
    for (int i = 0; i < 40; i++) x.feed(0, 0, 0, 0, 0);
    due("2 still, though the tape is full", x.trouble(), 2);
    x.guest(0, 0);
    due("0", x.trouble(), 0);
  }

  static void promise57_minus2IsNoRefusal() {
    List<ToIntFunction<EveningVow>> calls = List.of(x -> x.ends(), x -> x.last(), x -> x.leavesIn(0), x -> x.busiest(true), x -> x.order(0), x -> x.guest(0, 4),
        x -> x.guest(0, 5), x -> x.tireFor(0), x -> x.endsWithCup(0), x -> x.soonest(), x -> x.latest(), x -> x.wayAt(0), x -> x.judge(), x -> x.endsBy(0));
    EveningVow x = plainly(guest("a", "homeless", 1, 0));
    for (int i = 0; i < calls.size(); i++) {
      x.undo();
      due("call " + i, calls.get(i).applyAsInt(x), -2);
      due("trouble of call " + i, x.trouble(), 0);
    }
  }
}
