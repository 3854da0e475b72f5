import java.util.ArrayList;
import java.util.Arrays;
import java.util.Comparator;
import java.util.HashMap;
import java.util.LinkedHashMap;
import java.util.List;
import java.util.Map;
import java.util.NoSuchElementException;
import java.util.TreeMap;
import java.util.TreeSet;
import java.util.function.ToIntFunction;
import java.util.regex.Matcher;
import java.util.regex.Pattern;

/** The document once more, in its slowest form, with the whole Java library: ModelTest holds EveningVow against it. */
final class Model {
  // ---------------------------------------------------------------- the text

  /** Each LINE as a row of parts: a word, NEW (a name told), GUEST, SINGLE, OTHER, DRAWER, KIND or least..most. */
  private static final Map<String, String> LINES = new LinkedHashMap<>();
  private static final Map<String, Integer> ROOM = Map.of("guest", 7, "draws", 8, "tale", 4, "need", 5, "sight", 6);

  static {
    LINES.put("evening", "cups 0..4 wakes 1..30 grief 0..40");
    LINES.put("guest", "NEW KIND want 1..99 sinks 0..20");
    LINES.put("pair", "SINGLE OTHER");
    LINES.put("draws", "GUEST DRAWER by 1..20");
    LINES.put("tale", "NEW hours 1..3 tires 0..30");
    LINES.put("need", "NEW by 0..30 pays 1..99");
    LINES.put("seen", "GUEST hour 0..30");
    LINES.put("gone", "GUEST hour 0..30");
  }

  private static final List<String> KINDS = List.of("plain", "polite", "hired", "homeless");

  private static final class Told {
    int cups, wakes, grief;
    final List<String> guests = new ArrayList<>();
    final List<int[]> traits = new ArrayList<>(); // kind, want, sinks
    final Map<Integer, Integer> mates = new HashMap<>();
    final Map<List<Integer>, Integer> draws = new HashMap<>(); // (who, by whom): how much
    final List<int[]> tales = new ArrayList<>(); // hours, tires
    final List<int[]> needs = new ArrayList<>(); // by, pays
    final List<int[]> sights = new ArrayList<>(); // guest, hour, 1 seen or 0 gone

    Told copy() {
      Told t = new Told();
      t.cups = cups;
      t.wakes = wakes;
      t.grief = grief;
      t.guests.addAll(guests);
      t.traits.addAll(traits);
      t.mates.putAll(mates);
      t.draws.putAll(draws);
      t.tales.addAll(tales);
      t.needs.addAll(needs);
      t.sights.addAll(sights);
      return t;
    }
  }

  private static final class Fault extends Exception {
    private static final long serialVersionUID = 1L;
    final int number;
    final int place;

    Fault(int number, int place) {
      this.number = number;
      this.place = place;
    }
  }

  private static final Pattern TOKEN = Pattern.compile("[a-z]+|[0-9]+|;|[^ ]");

  private static Told parse(String text) throws Fault {
    List<String> tokens = new ArrayList<>();
    List<Integer> places = new ArrayList<>();
    Matcher m = TOKEN.matcher(text);
    while (m.find()) {
      tokens.add(m.group());
      places.add(m.start());
    }
    tokens.add("");
    places.add(text.length());
    Told told = new Told();
    Map<String, String> names = new HashMap<>();
    Map<String, Integer> lines = new HashMap<>();
    int at = 0;
    while (true) {
      String word = tokens.get(at);
      int place = places.get(at);
      if (!LINES.containsKey(word)) throw new Fault(1, place);
      if (word.equals("evening") && lines.containsKey("evening")) throw new Fault(3, place);
      String sort = word.equals("seen") || word.equals("gone") ? "sight" : word;
      if (ROOM.containsKey(sort) && lines.getOrDefault(sort, 0) >= ROOM.get(sort)) throw new Fault(5, place);
      if (!word.equals("evening") && !lines.containsKey("evening")) throw new Fault(6, place);
      lines.merge(sort, 1, Integer::sum);
      List<Integer> values = new ArrayList<>();
      String newName = null;
      at++;
      for (String part : LINES.get(word).split(" ")) {
        String token = tokens.get(at);
        place = places.get(at);
        if (Character.isUpperCase(part.charAt(0))) {
          if (!token.matches("[a-z]{1,8}")) throw new Fault(1, place);
          if (part.equals("KIND")) {
            if (!KINDS.contains(token)) throw new Fault(1, place);
            values.add(KINDS.indexOf(token));
          } else {
            if (LINES.containsKey(token)) throw new Fault(1, place);
            if (part.equals("NEW")) {
              if (names.containsKey(token)) throw new Fault(3, place);
              newName = token;
              names.put(token, word);
            } else {
              if (!"guest".equals(names.get(token))) throw new Fault(2, place);
              int g = told.guests.indexOf(token);
              boolean inPair = told.mates.containsKey(g);
              boolean isFirst = !values.isEmpty() && values.get(0) == g;
              if ((part.equals("SINGLE") || part.equals("OTHER")) && inPair) throw new Fault(3, place);
              if ((part.equals("OTHER") || part.equals("DRAWER")) && isFirst) throw new Fault(3, place);
              if (part.equals("DRAWER") && told.draws.containsKey(List.of(values.get(0), g))) throw new Fault(3, place);
              values.add(g);
            }
          }
        } else if (part.contains("..")) {
          if (!token.matches("[0-9]{1,3}")) throw new Fault(1, place);
          int n = Integer.parseInt(token);
          String[] bounds = part.split("\\.\\.");
          if (n < Integer.parseInt(bounds[0]) || n > Integer.parseInt(bounds[1])) throw new Fault(4, place);
          values.add(n);
        } else if (!token.equals(part)) {
          throw new Fault(1, place);
        }
        at++;
      }
      int[] v = values.stream().mapToInt(Integer::intValue).toArray();
      switch (word) {
        case "evening" -> {
          told.cups = v[0];
          told.wakes = v[1];
          told.grief = v[2];
        }
        case "guest" -> {
          told.guests.add(newName);
          told.traits.add(v);
        }
        case "pair" -> {
          told.mates.put(v[0], v[1]);
          told.mates.put(v[1], v[0]);
        }
        case "draws" -> told.draws.put(List.of(v[0], v[1]), v[2]);
        case "tale" -> told.tales.add(v);
        case "need" -> told.needs.add(v);
        case "seen" -> told.sights.add(new int[] {v[0], v[1], 1});
        default -> told.sights.add(new int[] {v[0], v[1], 0});
      }
      if (tokens.get(at).isEmpty()) {
        if (told.guests.isEmpty()) throw new Fault(6, places.get(at));
        return told;
      }
      if (!tokens.get(at).equals(";")) throw new Fault(1, places.get(at));
      at++;
    }
  }

  // ---------------------------------------------------------------- how it goes

  private interface Sinking {
    int by(int sinks);
  }

  private static final Sinking AS_TOLD = sinks -> sinks;

  private static final class State {
    int hour;
    int cups;
    final TreeSet<Integer> there = new TreeSet<>();
    final TreeSet<Integer> told = new TreeSet<>();
    final TreeMap<Integer, Integer> want = new TreeMap<>();
    final TreeMap<Integer, Integer> left = new TreeMap<>();

    State copy() {
      State s = new State();
      s.hour = hour;
      s.cups = cups;
      s.there.addAll(there);
      s.told.addAll(told);
      s.want.putAll(want);
      s.left.putAll(left);
      return s;
    }
  }

  private static State start(Told told) {
    State s = new State();
    s.cups = told.cups;
    for (int g = 0; g < told.guests.size(); g++) {
      s.there.add(g);
      s.want.put(g, told.traits.get(g)[1]);
    }
    return s;
  }

  private static int will(Told told, State s, int g) {
    int will = s.want.get(g);
    for (int by : s.there) will += told.draws.getOrDefault(List.of(g, by), 0);
    return will;
  }

  private static void depart(Told told, State s, TreeSet<Integer> who) {
    s.there.removeAll(who);
    for (int g : who) {
      s.left.put(g, s.hour);
      Integer mate = told.mates.get(g);
      if (mate != null && s.there.contains(mate)) s.want.merge(mate, -told.grief, Integer::sum);
    }
  }

  /** The rounds of LEAVING, each with who left on it. */
  private static List<TreeSet<Integer>> leave(Told told, State s) {
    List<TreeSet<Integer>> rounds = new ArrayList<>();
    while (true) {
      boolean somebodyLeft = !s.left.isEmpty();
      TreeSet<Integer> who = new TreeSet<>();
      for (int g : s.there) {
        boolean polite = told.traits.get(g)[0] == 1;
        if (will(told, s, g) <= 0 && (somebodyLeft || !polite)) who.add(g);
      }
      if (who.isEmpty()) return rounds;
      depart(told, s, who);
      rounds.add(who);
    }
  }

  private static List<TreeSet<Integer>> oneHour(Told told, State s, Sinking sinking) {
    for (int g : s.there) {
      int kind = told.traits.get(g)[0];
      if (kind == 3 || kind == 2 && s.hour < 6) continue;
      s.want.merge(g, -sinking.by(told.traits.get(g)[2]), Integer::sum);
    }
    s.hour++;
    return leave(told, s);
  }

  private static State in(Told told, State from, int hours) {
    State s = from.copy();
    for (int i = 0; i < hours; i++) oneHour(told, s, AS_TOLD);
    return s;
  }

  private static final int NEVER = 1000;

  private static int endsFrom(Told told, State from, Sinking sinking, int most) {
    State s = from.copy();
    for (int h = 0; h <= most; h++) {
      if (s.there.isEmpty()) return h;
      if (h < most) oneHour(told, s, sinking);
    }
    return NEVER;
  }

  private static int endsFrom(Told told, State from) {
    return endsFrom(told, from, AS_TOLD, 60);
  }

  private static State sent(Told told, State from, TreeSet<Integer> who) {
    State s = from.copy();
    depart(told, s, who);
    leave(told, s);
    return s;
  }

  private static State narrated(Told told, State from, int t) {
    State s = from.copy();
    s.told.add(t);
    for (int g : s.there) s.want.merge(g, -told.tales.get(t)[1], Integer::sum);
    for (int i = 0; i < told.tales.get(t)[0]; i++) oneHour(told, s, AS_TOLD);
    return s;
  }

  private static State woken(Told told, State from, int g, int cups) {
    State s = from.copy();
    s.want.merge(g, cups * told.wakes, Integer::sum);
    return s;
  }

  private static int bits(Iterable<Integer> who) {
    int bits = 0;
    for (int g : who) bits |= 1 << g;
    return bits;
  }

  private static int bitsOf(List<TreeSet<Integer>> rounds) {
    int bits = 0;
    for (TreeSet<Integer> round : rounds) bits |= bits(round);
    return bits;
  }

  private static TreeSet<Integer> setOf(int bits) {
    TreeSet<Integer> set = new TreeSet<>();
    for (int g = 0; g < 7; g++) if ((bits & 1 << g) != 0) set.add(g);
    return set;
  }

  private static int or2(int hours) {
    return hours > 60 ? -2 : hours;
  }

  // ---------------------------------------------------------------- the object

  private final StringBuilder tape = new StringBuilder();
  private Told told;
  private State now;
  private int trouble;
  private int fault;
  private int place;
  private final ArrayList<State> past = new ArrayList<>();
  private final ArrayList<State> images = new ArrayList<>();

  private int no(int why) {
    return no(why, -1);
  }

  private int no(int why, int answer) {
    trouble = why;
    return answer;
  }

  private boolean none() {
    trouble = 0;
    return told == null;
  }

  private boolean noGuest(int g) {
    return none() || g < 0 || g >= told.guests.size();
  }

  private boolean noTale(int t) {
    return none() || t < 0 || t >= told.tales.size();
  }

  private static boolean out(int n, int least, int most) {
    return n < least || n > most;
  }

  public int feed(int a, int b, int c, int d, int e) {
    if (tape.length() > 780) return -1;
    for (int n : new int[] {a, b, c, d, e}) {
      for (int k = 3; k >= 0; k--) tape.append((char) (n >> 8 * k & 0xff));
    }
    return tape.length();
  }

  public int evening(int n) {
    if (out(n, 0, tape.length())) return no(2);
    String text = tape.substring(0, n);
    tape.setLength(0);
    try {
      told = parse(text);
    } catch (Fault f) {
      fault = f.number;
      place = f.place;
      return no(4);
    }
    fault = 0;
    trouble = 0;
    now = start(told);
    past.clear();
    images.clear();
    return told.guests.size();
  }

  public int fault() {
    return fault;
  }

  public int where() {
    return trouble == 4 ? place : -1;
  }

  public int guest(int g, int what) {
    if (noGuest(g) || out(what, 0, 5)) return no(1, -1000);
    return switch (what) {
      case 0 -> told.traits.get(g)[0];
      case 1 -> now.want.get(g);
      case 2 -> will(told, now, g);
      case 3 -> now.there.contains(g) ? 1 : 0;
      case 4 -> now.left.getOrDefault(g, -2);
      default -> told.mates.getOrDefault(g, -2);
    };
  }

  public int drawn(int g, int by) {
    if (noGuest(g) || noGuest(by) || g == by) return no(1);
    return told.draws.getOrDefault(List.of(g, by), 0);
  }

  public int there() {
    return none() ? no(1) : bits(now.there);
  }

  public int leaving() {
    return none() ? no(1) : bitsOf(oneHour(told, now.copy(), AS_TOLD));
  }

  public int thereIn(int hours) {
    if (none()) return no(1);
    if (out(hours, 0, 60)) return no(2);
    return bits(in(told, now, hours).there);
  }

  public int wantIn(int g, int hours) {
    if (noGuest(g)) return no(1, -1000);
    if (out(hours, 0, 60)) return no(2, -1000);
    return in(told, now, hours).want.get(g);
  }

  public int busiest(boolean hour) {
    if (none()) return no(1);
    int best = 0;
    for (int h = 1; h <= 60; h++) {
      if (leftIn(h) > (best == 0 ? 0 : leftIn(best))) best = h;
    }
    if (best == 0) return -2;
    return hour ? best : in(told, now, best).there.size();
  }

  private int leftIn(int h) {
    return in(told, now, h - 1).there.size() - in(told, now, h).there.size();
  }

  public int order(int i) {
    if (none() || i < 0) return no(1);
    State end = in(told, now, 60);
    List<Integer> who = new ArrayList<>(now.there);
    who.removeAll(end.there);
    who.sort(Comparator.comparing(end.left::get));
    return i < who.size() ? who.get(i) : -2;
  }

  public int pull(int g) {
    if (noGuest(g)) return no(1);
    int sum = 0;
    for (int h : now.there) sum += told.draws.getOrDefault(List.of(h, g), 0);
    return sum;
  }

  public int leavesIn(int g) {
    if (noGuest(g)) return no(1);
    for (int h = 0; h <= 60; h++) if (!in(told, now, h).there.contains(g)) return h;
    return -2;
  }

  public int ends() {
    return none() ? no(1) : or2(endsFrom(told, now));
  }

  public int last() {
    if (none()) return no(1);
    int h = endsFrom(told, now);
    if (h > 60) return -2;
    return h == 0 ? 0 : bits(in(told, now, h - 1).there);
  }

  private boolean absent(int g) {
    return !now.there.contains(g);
  }

  private int chainOf(int g) {
    State s = sent(told, now, setOf(1 << g));
    return bits(now.there) & ~bits(s.there);
  }

  public int chain(int g) {
    if (noGuest(g)) return no(1);
    return absent(g) ? no(5) : chainOf(g);
  }

  private int firstMost(ToIntFunction<Integer> worth) {
    return now.there.stream().max(Comparator.<Integer>comparingInt(worth).thenComparing(Comparator.reverseOrder())).orElse(-2);
  }

  public int biggest() {
    if (none()) return no(1);
    return firstMost(g -> Integer.bitCount(chainOf(g)));
  }

  public int undrawn(int g, int by) {
    if (noGuest(g) || noGuest(by) || g == by) return no(1);
    Told t = told.copy();
    if (t.draws.remove(List.of(g, by)) == null) return no(5);
    return or2(endsFrom(t, now));
  }

  public int apart(int g) {
    if (noGuest(g)) return no(1);
    Told t = told.copy();
    Integer mate = t.mates.remove(g);
    if (mate == null) return no(5);
    t.mates.remove(mate);
    return or2(endsFrom(t, now));
  }

  public int rounds() {
    return none() ? no(1) : oneHour(told, now.copy(), AS_TOLD).size();
  }

  public int byGrief(int grief) {
    if (none()) return no(1);
    if (out(grief, 0, 40)) return no(2);
    Told t = told.copy();
    t.grief = grief;
    return or2(endsFrom(t, now));
  }

  public int tireFor(int hours) {
    if (none()) return no(1);
    if (out(hours, 0, 60)) return no(2);
    for (int n = 0; n <= 200; n++) {
      State s = now.copy();
      for (int g : s.there) s.want.merge(g, -n, Integer::sum);
      if (endsFrom(told, s) <= hours) return n;
    }
    return -2;
  }

  private int endsLess(int who) {
    return endsFrom(told, sent(told, now, setOf(who)));
  }

  public int endsWithout(int g) {
    if (noGuest(g)) return no(1);
    return absent(g) ? no(5) : or2(endsLess(1 << g));
  }

  public int holder() {
    if (none()) return no(1);
    int g = firstMost(x -> -endsLess(1 << x));
    return g == -2 || endsLess(1 << g) >= endsFrom(told, now) ? -2 : g;
  }

  public int without(int hours) {
    if (none()) return no(1);
    if (out(hours, 0, 60)) return no(2);
    List<Integer> sets = new ArrayList<>();
    for (int who = 0; who < 128; who++) if ((who & ~bits(now.there)) == 0) sets.add(who);
    sets.sort(Comparator.comparing(Integer::bitCount));
    for (int who : sets) if (endsLess(who) <= hours) return who;
    throw new AssertionError("all of them sent home, and it doesn't end");
  }

  public int endsWithTale(int t) {
    if (noTale(t)) return no(1);
    if (now.told.contains(t)) return no(5);
    return or2(endsByRow(List.of(t)));
  }

  private int endsByRow(List<Integer> row) {
    State s = now;
    for (int t : row) s = narrated(told, s, t);
    int taken = s.hour - now.hour;
    return taken + endsFrom(told, s, AS_TOLD, 60 - taken);
  }

  public int endsWithCup(int g) {
    if (noGuest(g)) return no(1);
    return absent(g) ? no(5) : or2(endsFrom(told, woken(told, now, g, 1)));
  }

  public int bestCup() {
    if (none()) return no(1);
    return firstMost(g -> endsFrom(told, woken(told, now, g, 1)));
  }

  private List<Integer> bestRow() {
    List<List<Integer>> all = new ArrayList<>();
    all.add(List.of());
    for (int i = 0; i < all.size(); i++) { // the rows of one length come by their tales, behind all shorter ones
      for (int t = 0; t < told.tales.size(); t++) {
        if (now.told.contains(t) || all.get(i).contains(t)) continue;
        List<Integer> longer = new ArrayList<>(all.get(i));
        longer.add(t);
        all.add(longer);
      }
    }
    List<Integer> best = all.get(0);
    for (List<Integer> row : all) if (endsByRow(row) < endsByRow(best)) best = row;
    return best;
  }

  public int soonest() {
    return none() ? no(1) : or2(endsByRow(bestRow()));
  }

  public int taleAt(int i) {
    if (none()) return no(1);
    List<Integer> row = bestRow();
    if (endsByRow(row) > 60) return no(6);
    return i < 0 || i >= row.size() ? no(1) : row.get(i);
  }

  /** All ways to give cups, the fewest first, then the less to the first ones. */
  private List<int[]> shares() {
    List<int[]> all = new ArrayList<>();
    int guests = told.guests.size();
    int base = now.cups + 1;
    int count = (int) Math.round(Math.pow(base, guests));
    for (int k = 0; k < count; k++) {
      int[] row = new int[guests];
      int rest = k;
      boolean fits = true;
      for (int g = guests - 1; g >= 0; g--) {
        row[g] = rest % base;
        rest /= base;
        fits &= row[g] == 0 || now.there.contains(g);
      }
      if (fits && Arrays.stream(row).sum() <= now.cups) all.add(row);
    }
    all.sort(Comparator.comparing(row -> Arrays.stream(row).sum()));
    return all;
  }

  private int endsByShare(int[] row) {
    State s = now;
    for (int g = 0; g < row.length; g++) s = woken(told, s, g, row[g]);
    return endsFrom(told, s);
  }

  private int[] bestShare() {
    int[] best = null;
    int ends = -1;
    for (int[] row : shares()) {
      int e = endsByShare(row);
      if (e > ends) {
        best = row;
        ends = e;
      }
    }
    return best;
  }

  public int latest() {
    return none() ? no(1) : or2(endsByShare(bestShare()));
  }

  public int cupsFor(int hours) {
    if (none()) return no(1);
    if (out(hours, 0, 60)) return no(2);
    for (int[] row : shares()) if (endsByShare(row) >= hours) return Arrays.stream(row).sum();
    return -2;
  }

  public int cupsTo(int g) {
    if (noGuest(g)) return no(1);
    int[] row = bestShare();
    return endsByShare(row) > 60 ? no(6) : row[g];
  }

  /** The first sight that isn't so by a cup at an hour to a guest (hour -1: none); -3 he wasn't there then. */
  private int wrong(int hour, int g) {
    List<TreeSet<Integer>> there = new ArrayList<>();
    State s = start(told);
    for (int h = 0; h <= 30; h++) {
      there.add(new TreeSet<>(s.there));
      if (h == hour) {
        if (!s.there.contains(g)) return -3;
        s = woken(told, s, g, 1);
      }
      oneHour(told, s, AS_TOLD);
    }
    for (int i = 0; i < told.sights.size(); i++) {
      int[] sight = told.sights.get(i);
      if (there.get(sight[1]).contains(sight[0]) != (sight[2] == 1)) return i;
    }
    return -2;
  }

  private List<Integer> allWays() {
    List<Integer> ways = new ArrayList<>();
    if (wrong(-1, 0) == -2) ways.add(-2);
    for (int h = 0; h <= 30; h++) {
      for (int g = 0; g < told.guests.size(); g++) if (wrong(h, g) == -2) ways.add(10 * h + g);
    }
    return ways;
  }

  public int ways() {
    return none() ? no(1) : allWays().size();
  }

  public int wayAt(int i) {
    if (none()) return no(1);
    List<Integer> ways = allWays();
    return i < 0 || i >= ways.size() ? no(1) : ways.get(i);
  }

  public int judge() {
    return none() ? no(1) : wrong(-1, 0);
  }

  private int payment(int hour) {
    return told.needs.stream().filter(n -> n[0] >= hour).mapToInt(n -> n[1]).sum();
  }

  public int pays(int hour) {
    if (none()) return no(1);
    return out(hour, 0, 99) ? no(2) : payment(hour);
  }

  public int paid() {
    if (none()) return no(1);
    int h = endsFrom(told, now);
    return h > 60 ? 0 : payment(now.hour + h);
  }

  private static int[] houses(int one, int other) {
    int[] has = {-one, -other};
    if (one != other) {
      int longer = one > other ? 0 : 1;
      int sum = 3 * Math.min(one, other);
      has[longer] += sum;
      has[1 - longer] -= sum;
    }
    return has;
  }

  public int house(int one, int other, boolean ofOther) {
    if (none()) return no(1, -100);
    if (out(one, 0, 6) || out(other, 0, 6)) return no(2, -100);
    return houses(one, other)[ofOther ? 1 : 0];
  }

  private List<Integer> allRests() {
    List<Integer> rests = new ArrayList<>();
    for (int one = 0; one <= 6; one++) {
      for (int other = 0; other <= 6; other++) {
        boolean rest = true;
        for (int x = 0; x <= 6; x++) {
          rest &= houses(x, other)[0] <= houses(one, other)[0] && houses(one, x)[1] <= houses(one, other)[1];
        }
        if (rest) rests.add(10 * one + other);
      }
    }
    return rests;
  }

  public int rests() {
    return none() ? no(1) : allRests().size();
  }

  public int rest() {
    if (none()) return no(1);
    return allRests().isEmpty() ? -2 : allRests().get(0);
  }

  private long seed;

  private int draw(int sinks) {
    seed = (75 * seed + 74) % 65_537;
    return (int) (seed % (2 * sinks + 1));
  }

  /** ENDS of n evenings by draws, and who left last in each (none if it doesn't END). */
  private List<int[]> evenings(int from, int n) {
    List<int[]> all = new ArrayList<>();
    seed = from;
    for (int i = 0; i < n; i++) {
      State s = now.copy();
      int hours = 0;
      int latest = 0;
      while (!s.there.isEmpty() && hours < 60) {
        latest = bitsOf(oneHour(told, s, this::draw));
        hours++;
      }
      all.add(s.there.isEmpty() ? new int[] {hours, latest} : new int[] {NEVER, 0});
    }
    return all;
  }

  private static boolean badDraws(int seed, int n) {
    return out(seed, 0, 65_536) || out(n, 1, 90);
  }

  public int endsBy(int seed) {
    if (none()) return no(1);
    return badDraws(seed, 1) ? no(2) : or2(evenings(seed, 1).get(0)[0]);
  }

  public long mean(int seed, int n, boolean lower) {
    if (none()) return no(1);
    if (badDraws(seed, n)) return no(2);
    long sum = 0;
    long many = 0;
    for (int[] e : evenings(seed, n)) {
      if (e[0] > 60) continue;
      sum += e[0];
      many++;
    }
    if (many == 0) return lower ? 1 : 0;
    long common = java.math.BigInteger.valueOf(sum).gcd(java.math.BigInteger.valueOf(many)).longValue();
    return (lower ? many : sum) / common;
  }

  public int often(int seed, int n, int hours) {
    if (none()) return no(1);
    if (badDraws(seed, n) || out(hours, 0, 60)) return no(2);
    return (int) evenings(seed, n).stream().filter(e -> e[0] <= hours).count();
  }

  public int keeps(int g, int seed, int n) {
    if (noGuest(g)) return no(1);
    if (badDraws(seed, n)) return no(2);
    return (int) evenings(seed, n).stream().filter(e -> (e[1] & 1 << g) != 0).count();
  }

  private void act() {
    past.add(now.copy());
    if (past.size() > 16) past.remove(0);
  }

  public int hour() {
    if (none()) return no(1);
    if (now.hour == 99) return no(3);
    if (now.there.isEmpty()) return no(6);
    act();
    return bitsOf(oneHour(told, now, AS_TOLD));
  }

  public int tell(int t) {
    if (noTale(t)) return no(1);
    if (now.hour + told.tales.get(t)[0] > 99) return no(3);
    if (now.told.contains(t)) return no(5);
    if (now.there.isEmpty()) return no(6);
    act();
    int before = bits(now.there);
    now = narrated(told, now, t);
    return before & ~bits(now.there);
  }

  public int cup(int g) {
    if (noGuest(g)) return no(1, -1000);
    if (absent(g)) return no(5, -1000);
    if (now.cups == 0) return no(6, -1000);
    act();
    now = woken(told, now, g, 1);
    now.cups--;
    return now.want.get(g);
  }

  public int send(int g) {
    if (noGuest(g)) return no(1);
    if (absent(g)) return no(5);
    act();
    int before = bits(now.there);
    now = sent(told, now, setOf(1 << g));
    return before & ~bits(now.there);
  }

  public boolean undo() {
    trouble = past.isEmpty() ? 6 : 0;
    if (!past.isEmpty()) now = past.remove(past.size() - 1);
    return trouble == 0;
  }

  public int image() {
    if (none()) return no(1);
    if (images.size() == 3) return no(3);
    images.add(now.copy());
    return images.size() - 1;
  }

  public boolean back(int image) {
    trouble = image < 0 || image >= images.size() ? 1 : 0;
    if (trouble != 0) return false;
    now = images.get(image).copy();
    past.clear();
    return true;
  }

  public int led(int i) {
    List<Integer> all = told == null ? List.of() : List.copyOf(now.told);
    if (i < 0 || i >= all.size()) throw new NoSuchElementException();
    return new ArrayList<>(new TreeSet<>(all)).get(i);
  }

  public int size(int what) {
    if (what == 13) return tape.length();
    if (out(what, 0, 13)) return -1;
    if (told == null) return 0;
    int[] sizes = {now.cups, told.wakes, told.grief, told.guests.size(), told.mates.size() / 2, told.draws.size(),
      told.tales.size(), told.needs.size(), told.sights.size(), now.hour, now.there.size(), past.size(), images.size()};
    return sizes[what];
  }

  public int trouble() {
    return trouble;
  }
}
