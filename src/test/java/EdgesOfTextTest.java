/** Boundary cases of promises 1 to 5: a new object, the tape, the text of an evening, its faults and their places. */
public final class EdgesOfTextTest extends Edges {
  private static final String HEAD = "evening cups 0 wakes 1 grief 0";
  private static final String ONE = HEAD + ";guest a plain want 1 sinks 0";
  private static final String THREE = ONE + ";guest b polite want 1 sinks 0;guest c hired want 1 sinks 0";
  private static final String[] LINE_WORDS = {"evening", "guest", "pair", "draws", "tale", "need", "seen", "gone"};
  private static final int BLANKS = 0x20202020;

  public static void main(String[] args) {
    runAll(EdgesOfTextTest.class, 1, 5);
  }

  private static int feedBlanks(EveningVow x) {
    return x.feed(BLANKS, BLANKS, BLANKS, BLANKS, BLANKS);
  }

  private static String filled(String text, int bytes) {
    return text + " ".repeat(bytes - text.length());
  }

  // ---- 1: a new object

  static void promise01_noEvening() {
    EveningVow x = new EveningVow();
    due("trouble", x.trouble(), 0);
    due("fault", x.fault(), 0);
    due("where", x.where(), -1);
    for (int what = 0; what <= 13; what++) due("size " + what, x.size(what), 0);
    refused(x, "there", x.there(), 1);
    due("led", led(x, 0), THROWN);
  }

  static void promise01_twoObjectsShareNothing() {
    EveningVow x = of(ONE);
    EveningVow y = new EveningVow();
    due("guests of the other one", y.size(3), 0);
    refused(y, "there", y.there(), 1);
    due("trouble of the first one", x.trouble(), 0);
    y.feed(0, 0, 0, 0, 0);
    due("tape of the first one", x.size(13), 0);
  }

  // ---- 2: feed

  static void promise02_fortyFeedsFillTheTape() {
    EveningVow x = new EveningVow();
    for (int i = 1; i <= 40; i++) due("feed " + i, feedBlanks(x), 20 * i);
    due("tape", x.size(13), 800);
  }

  static void promise02_moreThan800BytesDontCome() {
    EveningVow x = new EveningVow();
    Texts.feed(x, filled(ONE, 800));
    due("feed beyond", x.feed(-1, -1, -1, -1, -1), -1);
    due("feed beyond again", x.feed(-1, -1, -1, -1, -1), -1);
    due("tape", x.size(13), 800);
    due("none came, neither behind nor over the first ones", x.evening(800), 1);
  }

  static void promise02_theHighestByteOfANumberIsFirst() {
    EveningVow x = new EveningVow();
    x.feed(0x6576656e, 0x696e6720, 0x63757073, 0x2030203b, BLANKS); // "evening cups 0 ;"
    x.evening(20);
    due("the ; is the sixteenth", x.where(), 15);
    due("and is no wakes", x.fault(), 1);
  }

  static void promise02_bytesAbove127AreBytes() {
    EveningVow x = new EveningVow();
    x.feed(0xe1e2e3e4, -1, LEAST, MOST, 0);
    due("tape", x.size(13), 20);
    x.evening(20);
    due("they begin no TOKEN", x.where(), 0);
  }

  static void promise02_behindAnEveningTheTapeBeginsAnew() {
    EveningVow x = of(ONE);
    due("feed", feedBlanks(x), 20);
    x.evening(1);
    due("feed behind a FAULT", feedBlanks(x), 20);
  }

  static void promise02_fullIsNoTrouble() {
    EveningVow x = new EveningVow();
    for (int i = 0; i < 40; i++) feedBlanks(x);
    x.undo();
    due("feed", feedBlanks(x), -1);
    due("the trouble is undo's", x.trouble(), 6);
  }

  // ---- 3: evening

  static void promise03_aNumberBelow0() {
    EveningVow x = new EveningVow();
    feedBlanks(x);
    refused(x, "-1", x.evening(-1), 2);
    refused(x, "least", x.evening(LEAST), 2);
    due("the tape stays", x.size(13), 20);
  }

  static void promise03_moreBytesThanTheTapeHas() {
    EveningVow x = new EveningVow();
    refused(x, "1 of none", x.evening(1), 2);
    Texts.feed(x, filled(ONE, 80));
    refused(x, "81 of 80", x.evening(81), 2);
    refused(x, "800 of 80", x.evening(800), 2);
    refused(x, "most", x.evening(MOST), 2);
    due("the tape stays", x.size(13), 80);
    due("as it was", x.evening(80), 1);
    refused(x, "and is empty then", x.evening(1), 2);
  }

  static void promise03_moreThanThe800OfAFullTape() {
    EveningVow x = new EveningVow();
    Texts.feed(x, filled(ONE, 800));
    refused(x, "801 of 800", x.evening(801), 2);
    due("all 800", x.evening(800), 1);
  }

  static void promise03_refusedBy2TheEveningStays() {
    EveningVow x = of(THREE);
    x.image();
    x.hour();
    refused(x, "1 of none", x.evening(1), 2);
    due("guests", x.size(3), 3);
    due("hour", x.size(9), 1);
    due("acts", x.size(11), 1);
    due("images", x.size(12), 1);
  }

  static void promise03_noBytesAreNoEvening() {
    EveningVow x = of(ONE);
    refused(x, "0 of none", x.evening(0), 4);
    due("fault", x.fault(), 1);
    due("where", x.where(), 0);
    feedBlanks(x);
    refused(x, "0 of 20", x.evening(0), 4);
    due("the tape is empty", x.size(13), 0);
  }

  static void promise03_aTextOf800Bytes() {
    EveningVow x = new EveningVow();
    String text = " ".repeat(800 - ONE.length()) + ONE;
    due("guests", Texts.tell(x, text), 1);
    String cut = " ".repeat(801 - ONE.length()) + ONE.substring(0, ONE.length() - 1);
    refused(x, "its last WHOLE is beyond", Texts.tell(x, cut), 4);
    due("where", x.where(), 800);
  }

  static void promise03_onlyTheFirstNBytes() {
    EveningVow x = new EveningVow();
    Texts.feed(x, ONE + "9{;;evening");
    due("guests", x.evening(ONE.length()), 1);
    due("sinks by 0, not by 9", x.wantIn(0, 60), 1);
    due("the rest is gone, too", x.size(13), 0);
    Texts.feed(x, ONE);
    refused(x, "one byte less", x.evening(ONE.length() - 1), 4);
    due("where", x.where(), ONE.length() - 1);
    String pair = THREE + ";pair a b";
    Texts.feed(x, pair + "bbbbbbbbbbbbbb");
    due("a WORD goes on behind them", x.evening(pair.length()), 3);
    Texts.feed(x, pair + "bbbbbbbbbbbbbb");
    refused(x, "one byte more", x.evening(pair.length() + 1), 4);
    due("fault", x.fault(), 2);
  }

  static void promise03_aTapeFullOfLettersOrDigits() {
    fault(1, "|" + "z".repeat(800));
    fault(1, "|" + "9".repeat(800));
    fault(1, "|" + ";".repeat(800));
    fault(1, "evening cups |" + "0".repeat(787));
  }

  static void promise03_behindAFaultTheTapeIsEmptyAndTheEveningStays() {
    EveningVow x = of(2, 5, 3, guests(2, "homeless", 9, 1), "pair a b", "tale t hours 1 tires 0");
    x.image();
    x.tell(0);
    x.cup(1);
    x.send(0);
    refused(x, "a fault at the last byte", Texts.tell(x, HEAD + ";guest z plain want 9 sinks 21"), 4);
    due("tape", x.size(13), 0);
    due("cups", x.size(0), 1);
    due("wakes", x.size(1), 5);
    due("grief", x.size(2), 3);
    due("guests", x.size(3), 2);
    due("pairs", x.size(4), 1);
    due("tales", x.size(6), 1);
    due("hour", x.size(9), 1);
    due("there", x.there(), 2);
    due("acts", x.size(11), 3);
    due("images", x.size(12), 1);
    due("want", x.guest(1, 1), 11);
    due("told", led(x, 0), 0);
    due("undo", x.undo(), true);
    due("back", x.back(0), true);
  }

  static void promise03_toldAnewAllBegins() {
    EveningVow x = of(1, 5, 3, guests(3, "homeless", 9, 1), "pair a b", "draws c a by 4", "tale t hours 1 tires 2", "need n by 1 pays 1", "seen a hour 0");
    x.tell(0);
    x.cup(1);
    x.send(0);
    x.image();
    due("guests", Texts.tell(x, text(3, 7, 1, guests(2, "plain", 4, 1), "tale u hours 1 tires 0")), 2);
    due("cups", x.size(0), 3);
    due("wakes", x.size(1), 7);
    due("grief", x.size(2), 1);
    due("pairs", x.size(4), 0);
    due("draws", x.size(5), 0);
    due("tales", x.size(6), 1);
    due("needs", x.size(7), 0);
    due("seen and gone", x.size(8), 0);
    due("hour", x.size(9), 0);
    due("all are there", x.there(), 3);
    due("want", x.guest(0, 1), 4);
    due("nobody left", x.guest(0, 4), -2);
    due("in no pair", x.guest(0, 5), -2);
    due("no tale told", led(x, 0), THROWN);
    due("nothing to undo", x.undo(), false);
    due("no images", x.back(0), false);
  }

  static void promise03_toldThriceNothingOfTheFirstStays() {
    EveningVow x = of(FULL);
    Texts.tell(x, ONE);
    Texts.tell(x, ONE);
    due("guests", x.size(3), 1);
    for (int what = 4; what <= 8; what++) due("size " + what, x.size(what), 0);
    due("no pair", x.guest(0, 5), -2);
    due("nothing was seen", x.judge(), -2);
    due("full again", Texts.tell(x, FULL), 7);
  }

  static void promise03_ofAFaultyTextNothingStays() {
    EveningVow x = new EveningVow();
    refused(x, "a fault at the end", Texts.tell(x, FULL.substring(0, FULL.length() - 1)), 4);
    due("guests", Texts.tell(x, ONE), 1);
    for (int what = 4; what <= 8; what++) due("size " + what, x.size(what), 0);
    refused(x, "a fault at the end", Texts.tell(x, FULL.substring(0, FULL.length() - 1)), 4);
    due("its names are not told", Texts.tell(x, FULL), 7);
  }

  static void promise03_theSameTextTwice() {
    EveningVow x = of(THREE);
    hours(x, 5);
    due("guests", Texts.tell(x, THREE), 3);
    due("hour", x.size(9), 0);
  }

  static void promise03_from1To7Guests() {
    due("one", of(ONE).size(3), 1);
    due("seven", of(text(0, 1, 0, guests(7, "plain", 1, 1))).there(), 127);
  }

  // ---- 3: the tokens of a text

  static void promise03_wordsOf1To8Letters() {
    fault(0, HEAD + ";guest a plain want 1 sinks 0;guest abcdefgh homeless want 1 sinks 0;pair abcdefgh a");
    fault(1, HEAD + ";guest |abcdefghi plain want 1 sinks 0");
    fault(1, HEAD + ";guest |" + "z".repeat(60));
    fault(1, "|evenings cups 0");
    fault(1, HEAD + ";guest a |homelesss");
  }

  static void promise03_eightLettersAreLookedAtAll() {
    fault(0, HEAD + ";guest abcdefgh plain want 1 sinks 0;guest abcdefgx plain want 1 sinks 0;guest xbcdefgh plain want 1 sinks 0");
    fault(2, HEAD + ";guest abcdefgh plain want 1 sinks 0;seen |abcdefg hour 0");
    fault(2, HEAD + ";guest abcdefg plain want 1 sinks 0;seen |abcdefgh hour 0");
  }

  static void promise03_wholesOf1To3Digits() {
    fault(0, "evening cups 4 wakes 30 grief 040;guest a plain want 001 sinks 000");
    fault(1, "evening cups |0004");
    fault(1, "evening cups 4 wakes |0030");
    fault(1, "evening cups |1000");
    fault(1, "evening cups |" + "9".repeat(60));
    fault(1, HEAD + ";guest a plain want |4294967297 sinks 0");
  }

  static void promise03_blanksPartTokensAndMeanNothingElse() {
    fault(0, "   evening   cups 0   wakes 1 grief 0   ;   guest a plain want 1 sinks 0   ");
    fault(0, "evening cups0wakes1grief0;guest a plain want1sinks0");
    fault(1, "|eve ning");
    fault(1, HEAD + ";guest a plain want 1 |2 sinks 0");
    fault(1, "evening|\tcups");
    fault(1, "evening|\ncups");
  }

  static void promise03_bytesThatBeginNoToken() {
    for (int b = 0; b < 256; b++) {
      boolean begins = b == ' ' || b == ';' || b >= '0' && b <= '9' || b >= 'a' && b <= 'z';
      if (begins) continue;
      faultAt(1, ONE.length(), ONE + (char) b);
      faultAt(1, 7, "evening" + (char) b + "cups 0");
    }
  }

  // ---- 3: the bounds of a text's numbers

  static void promise03_cups0To4() {
    bounds("evening cups ", 0, 4, " wakes 1 grief 0;guest a plain want 1 sinks 0");
    due("4", of(4, 1, 0, guests(1, "plain", 1, 0)).size(0), 4);
  }

  static void promise03_wakes1To30() {
    bounds("evening cups 0 wakes ", 1, 30, " grief 0;guest a plain want 1 sinks 0");
    due("30", of(0, 30, 0, guests(1, "plain", 1, 0)).size(1), 30);
  }

  static void promise03_grief0To40() {
    bounds("evening cups 0 wakes 1 grief ", 0, 40, ";guest a plain want 1 sinks 0");
    due("40", of(0, 1, 40, guests(1, "plain", 1, 0)).size(2), 40);
  }

  static void promise03_want1To99() {
    bounds(HEAD + ";guest a plain want ", 1, 99, " sinks 0");
    due("99", plainly(guest("a", "plain", 99, 0)).guest(0, 1), 99);
    due("1", plainly(guest("a", "plain", 1, 0)).guest(0, 1), 1);
  }

  static void promise03_sinks0To20() {
    bounds(HEAD + ";guest a plain want 99 sinks ", 0, 20, "");
    due("20", plainly(guest("a", "plain", 99, 20)).wantIn(0, 1), 79);
    due("0", plainly(guest("a", "plain", 99, 0)).wantIn(0, 60), 99);
  }

  static void promise03_drawsBy1To20() {
    bounds(THREE + ";draws a b by ", 1, 20, "");
    due("20", of(THREE + ";draws a b by 20").drawn(0, 1), 20);
  }

  static void promise03_taleHours1To3() {
    bounds(ONE + ";tale t hours ", 1, 3, " tires 0");
    EveningVow x = of(ONE + ";tale t hours 3 tires 0");
    x.tell(0);
    due("3", x.size(9), 3);
  }

  static void promise03_taleTires0To30() {
    bounds(ONE + ";tale t hours 1 tires ", 0, 30, "");
    EveningVow x = plainly(guest("a", "homeless", 99, 0), "tale t hours 1 tires 30", "tale u hours 1 tires 0");
    x.tell(0);
    due("30", x.guest(0, 1), 69);
    x.tell(1);
    due("0", x.guest(0, 1), 69);
  }

  static void promise03_needBy0To30() {
    bounds(ONE + ";need n by ", 0, 30, " pays 1");
    due("by 30", of(ONE + ";need n by 30 pays 1").pays(30), 1);
    due("by 0", of(ONE + ";need n by 0 pays 1").pays(1), 0);
  }

  static void promise03_needPays1To99() {
    bounds(ONE + ";need n by 0 pays ", 1, 99, "");
    due("99", of(ONE + ";need n by 0 pays 99").pays(0), 99);
  }

  static void promise03_seenAndGoneHour0To30() {
    bounds(ONE + ";seen a hour ", 0, 30, "");
    bounds(ONE + ";gone a hour ", 0, 30, "");
  }

  // ---- 3: how many there may be of a sort

  static void promise03_upTo7Guests() {
    String seven = text(0, 1, 0, guests(7, "plain", 1, 0));
    fault(0, seven);
    fault(5, seven + ";|guest h plain want 1 sinks 0");
    fault(5, seven + ";|guest");
  }

  static void promise03_upTo8Draws() {
    String eight = THREE + ";guest d plain want 1 sinks 0;draws a b by 1;draws a c by 1;draws a d by 1;draws b a by 1;draws b c by 1;draws b d by 1;draws c a by 1;draws c b by 1";
    fault(0, eight);
    fault(5, eight + ";|draws c d by 1");
    fault(5, eight + ";|draws a b by 1");
  }

  static void promise03_upTo4Tales() {
    String four = ONE + ";tale p hours 1 tires 0;tale q hours 1 tires 0;tale r hours 1 tires 0;tale s hours 1 tires 0";
    fault(0, four);
    fault(5, four + ";|tale t hours 1 tires 0");
  }

  static void promise03_upTo5Needs() {
    String five = ONE + ";need p by 0 pays 1;need q by 0 pays 1;need r by 0 pays 1;need s by 0 pays 1;need t by 0 pays 1";
    fault(0, five);
    fault(5, five + ";|need u by 0 pays 1");
  }

  static void promise03_upTo6OfSeenAndGone() {
    String six = ONE + ";seen a hour 0;gone a hour 0;seen a hour 0;gone a hour 0;seen a hour 0;gone a hour 0";
    fault(0, six);
    fault(5, six + ";|seen a hour 0");
    fault(5, six + ";|gone a hour 0");
    fault(5, ONE + ";seen a hour 1".repeat(6) + ";|gone a hour 1");
    fault(5, ONE + ";gone a hour 1".repeat(6) + ";|seen a hour 1");
  }

  static void promise03_aFullSortLeavesRoomForOthers() {
    String seven = text(0, 1, 0, guests(7, "plain", 1, 0));
    fault(0, seven + ";pair a b;draws a b by 1;tale t hours 1 tires 0;need n by 0 pays 1;seen a hour 0;gone a hour 0");
    fault(0, seven + ";pair a b;pair c d;pair e f");
  }

  // ---- 3: names

  static void promise03_namesAreNotTheWordsOfLines() {
    for (String word : LINE_WORDS) {
      fault(1, HEAD + ";guest |" + word + " plain want 1 sinks 0");
      fault(1, ONE + ";tale |" + word + " hours 1 tires 0");
      fault(1, ONE + ";need |" + word + " by 0 pays 1");
      fault(1, ONE + ";pair a |" + word);
      fault(1, ONE + ";draws |" + word);
      fault(1, ONE + ";gone |" + word);
    }
  }

  static void promise03_otherWordsMayBeNames() {
    for (String word : new String[] {"cups", "wakes", "grief", "want", "sinks", "by", "hours", "tires", "pays", "hour", "plain", "polite", "hired", "homeless", "evenings", "guests", "gon"}) {
      fault(0, HEAD + ";guest " + word + " plain want 1 sinks 0;seen " + word + " hour 0;gone " + word + " hour 0");
      fault(0, ONE + ";tale " + word + " hours 1 tires 0");
      fault(0, ONE + ";need " + word + " by 0 pays 1");
    }
  }

  static void promise03_aNameIsToldOnce() {
    fault(3, ONE + ";guest |a plain want 1 sinks 0");
    fault(3, ONE + ";tale |a hours 1 tires 0");
    fault(3, ONE + ";need |a by 0 pays 1");
    fault(3, ONE + ";tale t hours 1 tires 0;tale |t hours 1 tires 0");
    fault(3, ONE + ";need n by 0 pays 1;need |n by 0 pays 1");
    fault(3, ONE + ";need n by 0 pays 1;guest |n plain want 1 sinks 0");
    fault(3, ONE + ";tale t hours 1 tires 0;need |t by 0 pays 1");
  }

  static void promise03_aNameIsToldAheadOfItsUse() {
    fault(2, HEAD + ";seen |a hour 0;guest a plain want 1 sinks 0");
    fault(2, ONE + ";pair a |b;guest b plain want 1 sinks 0");
    fault(2, ONE + ";draws |b a by 1");
    fault(2, ONE + ";draws a |b by 1");
    fault(2, ONE + ";gone |b hour 0");
  }

  static void promise03_aNameOfAnotherSort() {
    fault(2, ONE + ";tale t hours 1 tires 0;seen |t hour 0");
    fault(2, ONE + ";need n by 0 pays 1;gone |n hour 0");
    fault(2, ONE + ";tale t hours 1 tires 0;pair |t a");
    fault(2, ONE + ";need n by 0 pays 1;pair a |n");
    fault(2, ONE + ";tale t hours 1 tires 0;draws |t a by 1");
    fault(2, ONE + ";need n by 0 pays 1;draws a |n by 1");
  }

  static void promise03_theTwoOfAPairAreUnlike() {
    fault(3, THREE + ";pair a |a");
    fault(3, THREE + ";pair c |c");
    fault(0, THREE + ";pair c a");
  }

  static void promise03_nobodyIsInTwoPairs() {
    fault(3, THREE + ";pair a b;pair |a c");
    fault(3, THREE + ";pair a b;pair |b c");
    fault(3, THREE + ";pair a b;pair c |a");
    fault(3, THREE + ";pair a b;pair c |b");
    fault(3, THREE + ";pair a b;pair |a b");
    fault(3, THREE + ";pair a b;pair |b a");
  }

  static void promise03_theTwoOfADrawAreUnlike() {
    fault(3, THREE + ";draws a |a by 1");
    fault(3, THREE + ";draws c |c by 1");
  }

  static void promise03_eachTwoDrawInThatOrderOnce() {
    fault(3, THREE + ";draws a b by 1;draws a |b by 2");
    fault(3, THREE + ";draws a b by 1;draws a c by 1;draws b a by 1;draws a |c by 1");
    fault(0, THREE + ";draws a b by 1;draws b a by 1");
    fault(0, THREE + ";draws a c by 1;draws b c by 1");
  }

  static void promise03_kindsAreFour() {
    for (String kind : new String[] {"plain", "polite", "hired", "homeless"}) fault(0, HEAD + ";guest a " + kind + " want 1 sinks 0");
    for (String kind : new String[] {"shy", "plai", "plains", "pol", "hire", "homeles", "a", "guest", "7", ";"}) {
      fault(1, HEAD + ";guest a |" + kind + " want 1 sinks 0");
    }
  }

  // ---- 3: the evening's own line, and the end

  static void promise03_theEveningIsAheadOfAllOthers() {
    for (String word : LINE_WORDS) if (!word.equals("evening")) fault(6, "  |" + word);
    fault(6, "|guest a plain want 1 sinks 0;" + HEAD);
  }

  static void promise03_oneEvening() {
    fault(3, HEAD + ";|" + ONE);
    fault(3, THREE + ";|evening");
  }

  static void promise03_atLeastOneGuest() {
    fault(6, HEAD + "|");
    fault(6, HEAD + "   |");
    fault(6, HEAD + ";tale t hours 1 tires 0;need n by 0 pays 1|");
  }

  private static String[] tokensOfAllLines() {
    return (THREE + ";pair a b;draws a b by 1;tale t hours 1 tires 1;need n by 1 pays 1;seen a hour 1;gone a hour 1").replace(";", " ; ").split(" +");
  }

  static void promise03_aTokenOfAnotherSort() {
    String[] tokens = tokensOfAllLines();
    for (int i = 0; i < tokens.length; i++) {
      for (String other : new String[] {"zz", "1", ";"}) {
        boolean word = Character.isLetter(tokens[i].charAt(0));
        if (other.equals(tokens[i]) || word && other.equals("zz") || other.equals("1") && Character.isDigit(tokens[i].charAt(0))) continue;
        String ahead = String.join(" ", java.util.Arrays.copyOf(tokens, i)) + (i == 0 ? "" : " ");
        String behind = String.join(" ", java.util.Arrays.copyOfRange(tokens, i + 1, tokens.length));
        fault(1, ahead + "|" + other + " " + behind);
      }
    }
  }

  static void promise03_theEndWhereALineIsOpen() {
    String[] tokens = tokensOfAllLines();
    StringBuilder text = new StringBuilder();
    boolean guest = false;
    for (int i = 0; i < tokens.length; i++) {
      text.append(i == 0 ? "" : " ").append(tokens[i]);
      boolean lineEnds = i + 1 == tokens.length || tokens[i + 1].equals(";");
      guest |= lineEnds && text.indexOf("guest") > 0;
      if (!lineEnds) fault(1, text + "|");
      if (lineEnds) fault(guest ? 0 : 6, text + (guest ? "" : "|"));
    }
    fault(1, THREE + ";|");
    fault(1, THREE + "; |;");
  }

  // ---- 4: fault

  static void promise04_eachNumber() {
    EveningVow x = new EveningVow();
    String[] texts = {"house", HEAD + ";seen a", ONE + ";guest a", "evening cups 5", ONE + ";seen a hour 1".repeat(7), HEAD};
    for (int i = 0; i < texts.length; i++) {
      Texts.tell(x, texts[i]);
      due("fault of " + texts[i], x.fault(), i + 1);
    }
    Texts.tell(x, ONE);
    due("without one", x.fault(), 0);
  }

  static void promise04_refusedBy2ItStays() {
    EveningVow x = new EveningVow();
    x.evening(1);
    due("of none", x.fault(), 0);
    Texts.tell(x, "evening cups 5");
    x.evening(1);
    x.evening(-1);
    due("of the one before", x.fault(), 4);
    Texts.tell(x, ONE);
    x.evening(1);
    due("of the sound one before", x.fault(), 0);
  }

  static void promise04_otherCallsLeaveIt() {
    EveningVow x = of(ONE);
    Texts.tell(x, "evening cups 5");
    x.hour();
    x.guest(9, 9);
    x.undo();
    feedBlanks(x);
    due("fault", x.fault(), 4);
  }

  static void promise04_theFirstFromTheLeft() {
    fault(4, "evening cups |5 wakes 0 grief 41 ; ; {");
    fault(1, "evening |cup 5");
    fault(2, ONE + ";seen |x hour 31");
    fault(3, ONE + ";guest |a shy want 0");
    fault(4, ONE + ";seen a hour |31;{");
    fault(6, "|guest guest");
  }

  static void promise04_ofOnePlaceTheLeastNumber() {
    fault(1, "|"); // neither a LINE nor a guest
    fault(1, HEAD + ";|");
    fault(1, "evening|");
    fault(1, ONE + ";pair |seen"); // no NAME, and not told
    fault(1, "evening cups |5000"); // no WHOLE, and out of bounds
    fault(2, ONE + ";pair a |x");
  }

  // ---- 5: where

  static void promise05_noneWithoutAFault() {
    EveningVow x = new EveningVow();
    due("new", x.where(), -1);
    x.evening(1);
    due("refused by 2", x.where(), -1);
    Texts.tell(x, ONE);
    due("sound", x.where(), -1);
  }

  static void promise05_itsPlaceTillTheNextCallThatMayBeRefused() {
    EveningVow x = of(ONE);
    Texts.tell(x, "evening cups 5");
    due("where", x.where(), 13);
    feedBlanks(x);
    x.fault();
    x.trouble();
    x.size(99);
    led(x, 9);
    due("those that can't be refused leave it", x.where(), 13);
    x.there();
    due("one that isn't refused", x.where(), -1);
    Texts.tell(x, "evening cups 5");
    x.guest(9, 9);
    due("one that is", x.where(), -1);
    Texts.tell(x, "evening cups 5");
    x.evening(99);
    due("refused by 2", x.where(), -1);
    Texts.tell(x, "evening cups 5");
    x.undo();
    due("undo", x.where(), -1);
    Texts.tell(x, "evening cups 5");
    x.back(0);
    due("back", x.where(), -1);
  }

  static void promise05_theFirstByteAndTheEnd() {
    fault(1, "|{");
    fault(1, "evening      |");
    EveningVow x = new EveningVow();
    Texts.tell(x, filled(HEAD, 800));
    due("the end of a full tape", x.where(), 800);
  }
}
