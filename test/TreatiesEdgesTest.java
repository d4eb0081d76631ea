/** The boundary cases of TREATIES, DAYS, DRAWS, and of what is KEPT; one test a sentence. */
public final class TreatiesEdgesTest {
  private static final int MIN = Integer.MIN_VALUE;
  private static final int MAX = Integer.MAX_VALUE;

  private final Due due = new Due("TreatiesEdgesTest");

  public static void main(String[] args) {
    new TreatiesEdgesTest().all();
  }

  private void all() {
    bytesOfTreaties();
    bytesOfJudged();
    eightLines();
    ninthLine();
    commaBetweenTwo();
    coloursTo11();
    oneToFourQuarters();
    rising();
    signs();
    empiresOfALine();
    empireWithItself();
    ends();
    theFirstFromTheLeft();
    noneIsMadeByAFault();
    toldAndPlain();
    firstHasItInAll();
    secondHasItInNone();
    sixteenTreaties();
    givesAndShares();
    ofThatDay();
    oneBehindTheOther();
    judgedAsInTreaties();
    judgedMakesNothing();
    aDrawForEach();
    belowB();
    draws();
    brokenGivenBack();
    brokenSharedBack();
    brokenWhenTheGiverHasIt();
    numbersLessByOne();
    askedThen();
    ofItsLowestQuarter();
    daysFrom1To99();
    the9999thDay();
    triedFrom1To99();
    triedWhat();
    triedChangesNothing();
    triedAsManyAsCan();
    treatyIsOfWhat();
    seeds();
    keptOnce();
    undoneToTheLast();
    undoneWithoutKeep();
    whatIsNotKept();
    due.end();
  }

  private void is(String call, long got, long want) {
    due.is(call, got, want);
  }

  private void is(String call, boolean got, boolean want) {
    due.is(call, got, want);
  }

  /** EMPIRE 0 HAS COLOUR 0 in all QUARTERS. */
  private static HueWar giver() {
    HueWar war = Due.plain(0);
    for (int q = 0; q < 4; q++) {
      war.have(0, q, 1);
    }
    return war;
  }

  /** Promise 8: "the first n bytes of the tape (1 to 120; empty then)"; "NONE: no such n, it has not so many (the tape stays)". */
  private void bytesOfTreaties() {
    HueWar war = giver();
    for (int i = 0; i < 7; i++) {
      Due.feed(war, "0@0>01,0@1>01,0@2>01");
    }
    for (int n : new int[] {121, 140, 141, 0, -1, MIN, MAX}) {
      is("no n " + n, war.treaties(n), -1);
    }
    is("the tape stays", war.count(3), 140);
    is("none was made", war.count(6), 0);
    is("20 of 140", war.treaties(20), 3);
    is("empty then", war.count(3), 0);
    is("not so many", war.treaties(6), -1);
    Due.feed(war, "0@0>10");
    is("not so many", war.treaties(21), -1);
    is("the tape stays", war.count(3), 20);
    is("its first 6", war.treaties(6), 1);
    is("empty then", war.count(3), 0);
    Due.feed(war, "0");
    is("1 byte", war.treaties(1), -1001);
    is("empty then", war.count(3), 0);
    Due.feed(war, "0@0>01" + ",0@0>01".repeat(17));
    is("120 bytes", war.treaties(120), -4056);
  }

  /** Promise 9: "as above". */
  private void bytesOfJudged() {
    HueWar war = giver();
    for (int i = 0; i < 7; i++) {
      Due.feed(war, "0@0>01,0@1>01,0@2>01");
    }
    for (int n : new int[] {121, 140, 141, 0, -1, MIN, MAX}) {
      is("no n " + n, war.judged(n), -1);
    }
    is("the tape stays", war.count(3), 140);
    is("20 of 140", war.judged(20), 3);
    is("empty then", war.count(3), 0);
    is("not so many", war.judged(6), -1);
    Due.feed(war, "0@0>01");
    is("not so many", war.judged(21), -1);
    is("the tape stays", war.count(3), 20);
    is("its first 6", war.judged(6), 1);
    Due.feed(war, "0");
    is("1 byte", war.judged(1), -1001);
    is("empty then", war.count(3), 0);
    Due.feed(war, "0@0>01" + ",0@0>01".repeat(17));
    is("120 bytes", war.judged(120), -4056);
  }

  private void fault(String text, int answer) {
    HueWar war = giver();
    is("judged " + text, Due.judged(war, text), answer);
    is("empty behind " + text, war.count(3), 0);
    is("treaties " + text, Due.treaties(war, text), answer);
    is("empty behind " + text, war.count(3), 0);
    is("none by " + text, war.count(6), 0);
    is("COLOUR 0 behind " + text, war.count(100), 1);
  }

  private void made(String text, int lines) {
    HueWar war = giver();
    is("judged " + text, Due.judged(war, text), lines);
    is("treaties " + text, Due.treaties(war, text), lines);
    is("TREATIES by " + text, war.count(6), lines);
  }

  /** "LINES (8 at most)". */
  private void eightLines() {
    made("0@0>01", 1);
    made("0@0>01,0@0>10,0@0>01,0@0>10,0@0>01,0@0>10,0@0>01", 7);
    made("0@0>01,0@0>10,0@0>01,0@0>10,0@0>01,0@0>10,0@0>01,0@0>10", 8);
    made("00@0123>01,00@0123>10,00@0123>01,00@0123>10,00@0123>01,00@0123>10,00@0123>01,00@0123>10", 8);
  }

  /** "4 a 9th LINE, at its first digit". */
  private void ninthLine() {
    String eight = "0@0>01,0@0>10,0@0>01,0@0>10,0@0>01,0@0>10,0@0>01,0@0>10";
    fault(eight + ",0@0>01", -4056);
    fault(eight + ",0", -4056);
    fault(eight + ",99", -4056);
    fault(eight + ",12@", -4056);
    fault(eight + ",", -1056);
    fault(eight + ",,", -1056);
    fault(eight + ",@0>01", -1056);
    fault(eight + "0", -1055);
  }

  /** "LINES .. with a , between two". */
  private void commaBetweenTwo() {
    made("0@0>01,0@1>01", 2);
    fault("0@0>010@1>01", -1006);
    fault("0@0>01;0@1>01", -1006);
    fault("0@0>01,", -1007);
    fault("0@0>01,,0@1>01", -1007);
    fault(",0@0>01", -1000);
    fault("0@0>01 ,0@1>01", -1006);
  }

  /** "a COLOUR (0 to 11, one or two digits)"; "3 a COLOUR above 11, at its first digit (asked when its digits end, ..)". */
  private void coloursTo11() {
    made("0@0>01", 1);
    made("00@0>01", 1);
    HueWar war = Due.plain(9, 10, 11);
    war.have(9, 0, 1);
    war.have(10, 0, 1);
    war.have(11, 0, 1);
    is("9, 10, 11", Due.treaties(war, "9@0>01,10@0>01,11@0>01,09@0>12"), 4);
    fault("12@0>01", -3000);
    fault("13@0>01", -3000);
    fault("20@0>01", -3000);
    fault("99@0>01", -3000);
    fault("12", -3000);
    fault("12x", -3000);
    fault("123", -3000);
    fault("11", -1002);
    fault("1", -1001);
    fault("1x", -1001);
    fault("110@0>01", -1002);
    fault("000@0>01", -1002);
    fault("0@0>01,12@0>01", -3007);
    fault("a@0>01", -1000);
    fault("@0>01", -1000);
    fault("-1@0>01", -1000);
  }

  /** "@, QUARTERS (one to four digits 0 to 3, ..)". */
  private void oneToFourQuarters() {
    made("0@0>01", 1);
    made("0@3>01", 1);
    made("0@03>01", 1);
    made("0@123>01", 1);
    made("0@0123>01", 1);
    fault("0@>01", -1002);
    fault("0@4>01", -1002);
    fault("0@9>01", -1002);
    fault("0@04>01", -1003);
    fault("0@01234>01", -1006);
    fault("0@a>01", -1002);
    fault("0@", -1002);
    fault("0@0", -1003);
    fault("0@0123", -1006);
    fault("0>01", -1001);
    fault("0@@0>01", -1002);
  }

  /** "rising"; "6 a QUARTER not above the last one .. at it". */
  private void rising() {
    fault("0@00>01", -6003);
    fault("0@10>01", -6003);
    fault("0@33>01", -6003);
    fault("0@30>01", -6003);
    fault("0@011>01", -6004);
    fault("0@020>01", -6004);
    fault("0@0121>01", -6005);
    fault("0@0132>01", -6005);
    fault("0@10", -6003);
    fault("0@1x", -1003);
  }

  /** "a sign, .. > .. +". */
  private void signs() {
    made("0@0>01", 1);
    made("0@0+01", 1);
    for (String sign : new String[] {"<", "=", "-", "x", "*", "", "&"}) {
      fault("0@0" + sign + (sign.isEmpty() ? "" : "01"), -1003);
    }
    fault("0@0>>01", -1004);
    fault("0@0+>01", -1004);
  }

  /** "two EMPIRES (a digit each)"; "3 .. an EMPIRE above 5, at it". */
  private void empiresOfALine() {
    made("0@0>05", 1);
    fault("0@0>60", -3004);
    fault("0@0>90", -3004);
    fault("0@0>66", -3004);
    fault("0@0>06", -3005);
    fault("0@0>09", -3005);
    fault("0@0>6", -3004);
    fault("0@0>", -1004);
    fault("0@0>0", -1005);
    fault("0@0>x0", -1004);
    fault("0@0>0x", -1005);
    fault("0@0>012", -1006);
    fault("0@0>-1", -1004);
  }

  /** "6 .. an EMPIRE with itself, at it". */
  private void empireWithItself() {
    for (int e = 0; e < 6; e++) {
      fault("0@0>" + e + e, -6005);
      fault("0@0+" + e + e, -6005);
    }
    fault("0@0>01,0@0>00", -6012);
  }

  /** "1 what can't stand there (the end, too)", at each place of a TEXT. */
  private void ends() {
    String text = "00@013+05,0@2>01";
    made(text, 2);
    for (int n = 1; n < text.length(); n++) {
      if (n != 9) {
        fault(text.substring(0, n), -1000 - n);
      }
    }
    for (int n = 0; n <= text.length(); n++) {
      fault(text.substring(0, n) + "$" + text.substring(n), -1000 - n);
      fault(text.substring(0, n) + (char) 0 + text.substring(n), -1000 - n);
      fault(text.substring(0, n) + (char) ('0' + 128) + text.substring(n), -1000 - n);
    }
  }

  /** "FAULTS, the first from the left". */
  private void theFirstFromTheLeft() {
    fault("12@10>66", -3000);
    fault("0@10>66", -6003);
    fault("0@1>66", -3004);
    fault("0@1>00,12@0>01", -6005);
    fault("x2@0>01", -1000);
    fault("0@0>06,x", -3005);
    fault("0@5>66", -1002);
  }

  /** Promise 8: "a FAULT: as above (none is made)". */
  private void noneIsMadeByAFault() {
    HueWar war = giver();
    is("a FAULT at the end", Due.treaties(war, "0@0>01,0@1>01,0@2>0"), -1019);
    is("none", war.count(6), 0);
    is("nothing given", war.count(100), 1);
    is("nothing given", war.count(101), 1);
    is("empty then", war.count(3), 0);
    is("without it", Due.treaties(war, "0@0>01,0@1>01"), 2);
  }

  /** "A LINE can be, if the COLOUR is told and plain". */
  private void toldAndPlain() {
    HueWar war = Due.mixed();
    war.have(0, 0, 1);
    war.have(1, 0, 1);
    is("mixed", Due.judged(war, "2@0>01"), 0);
    is("mixed", Due.treaties(war, "2@0>01"), 0);
    is("not told", Due.judged(war, "5@0>01"), 0);
    is("not told", Due.treaties(war, "11@0+01"), 0);
    is("plain", Due.treaties(war, "0@0>01"), 1);
    is("behind two that can't", Due.treaties(war, "2@0>01,5@0>01,1@0>01"), 1);
  }

  /** "the first EMPIRE HAS it in all those QUARTERS". */
  private void firstHasItInAll() {
    HueWar war = Due.plain(0);
    war.have(0, 0, 1);
    war.have(0, 2, 1);
    is("in none", Due.judged(war, "0@1>01"), 0);
    is("not in the last one", Due.judged(war, "0@023>01"), 0);
    is("not in the first one", Due.judged(war, "0@12>01"), 0);
    is("not in the middle", Due.judged(war, "0@012>01"), 0);
    is("another EMPIRE has not", Due.judged(war, "0@0>10"), 0);
    is("not in the last one", Due.treaties(war, "0@023>01"), 0);
    is("nothing is given", war.count(100), 1);
    is("in all", Due.judged(war, "0@02>01"), 1);
  }

  /** "the second one in none of them". */
  private void secondHasItInNone() {
    HueWar war = giver();
    war.have(0, 2, 3);
    is("in the one", Due.judged(war, "0@2>01"), 0);
    is("in the last one", Due.judged(war, "0@012>01"), 0);
    is("in the first one", Due.judged(war, "0@23+01"), 0);
    is("in another one", Due.judged(war, "0@013>01"), 1);
    is("in the last one", Due.treaties(war, "0@012>01"), 0);
    is("nothing is given", war.count(100), 1);
  }

  /** "and 16 TREATIES are not there"; "it is a TREATY (16 at most)". */
  private void sixteenTreaties() {
    HueWar war = giver();
    is("8", Due.treaties(war, "0@0>01,0@0>10,0@0>01,0@0>10,0@0>01,0@0>10,0@0>01,0@0>10"), 8);
    is("15", Due.treaties(war, "0@0>01,0@0>10,0@0>01,0@0>10,0@0>01,0@0>10,0@0>01"), 7);
    is("the 17th can't", Due.judged(war, "0@0>10,0@0>01"), 1);
    is("the 16th can", Due.treaties(war, "0@0>10,0@0>01"), 1);
    is("16", war.count(6), 16);
    is("as the 16th left it", war.count(100), 1);
    is("the 17th", Due.treaties(war, "0@0>01"), 0);
    is("the 17th", Due.judged(war, "0@0>01"), 0);
    is("the last number", war.treatyIs(15, 2), 1);
    is("no number 16", war.treatyIs(16, 0), -1);
    Due.law(war, "b10(e=1)");
    is("half of them are broken", war.days(1), 8);
    is("there is room again", Due.judged(war, "0@1>01"), 1);
  }

  /** "Then the second one HAS it in them (and with > the first one not any more)". */
  private void givesAndShares() {
    HueWar war = giver();
    is("gives", Due.treaties(war, "0@03>04"), 1);
    is("shares", Due.treaties(war, "0@12+05"), 1);
    int[] havers = {16, 33, 33, 16};
    for (int q = 0; q < 4; q++) {
      is("HAVE it in " + q, war.count(100 + q), havers[q]);
    }
    is("4 sees it", war.sees(4, 0, 3), 1);
    is("0 does not", war.sees(0, 0, 3), 0);
    is("0 does", war.sees(0, 0, 2), 1);
  }

  /** "it is a TREATY .., of that DAY". */
  private void ofThatDay() {
    HueWar war = giver();
    Due.treaties(war, "0@0>01");
    war.days(99);
    Due.treaties(war, "0@1>01,0@2+01");
    is("of the first DAY", war.treatyIs(0, 5), 0);
    is("of DAY 99", war.treatyIs(1, 5), 99);
    is("of DAY 99", war.treatyIs(2, 5), 99);
  }

  /** Promise 8: "LINES that can be are made, one behind the other: how many". */
  private void oneBehindTheOther() {
    HueWar war = giver();
    is("three of five", Due.treaties(war, "0@0>12,0@0>01,0@0>01,0@0>12,0@0+23"), 3);
    is("the first one", war.treatyIs(0, 2), 0);
    is("the second one", war.treatyIs(1, 2), 1);
    is("the third one", war.treatyIs(2, 2), 2);
    is("2, 3 HAVE it", war.count(100), 12);
    is("none", Due.treaties(war, "0@0>01"), 0);
  }

  /** Promise 9: "the first LINE that can't be (0 on); how many there are: all can". */
  private void judgedAsInTreaties() {
    HueWar war = giver();
    is("all of one", Due.judged(war, "0@0>01"), 1);
    is("all of three, one behind the other", Due.judged(war, "0@0>01,0@0>12,0@0>23"), 3);
    is("the first of one", Due.judged(war, "0@0>12"), 0);
    is("the first of two", Due.judged(war, "0@0>12,0@0>01"), 0);
    is("the second, which could alone", Due.judged(war, "0@0>01,0@0>02"), 1);
    is("the last one", Due.judged(war, "0@0>01,0@0>12,0@0>12"), 2);
    is("the eighth", Due.judged(war, "0@0>01,0@0>10,0@0>01,0@0>10,0@0>01,0@0>10,0@0>01,0@0>01"), 7);
    is("all of eight", Due.judged(war, "0@0>01,0@0>10,0@0>01,0@0>10,0@0>01,0@0>10,0@0>01,0@0>10"), 8);
  }

  /** Promise 9: "nothing is made". */
  private void judgedMakesNothing() {
    HueWar war = giver();
    Due.judged(war, "0@0123>01,0@0>12");
    is("no TREATY", war.count(6), 0);
    for (int q = 0; q < 4; q++) {
      is("0 HAS it", war.count(100 + q), 1);
    }
    is("again", Due.judged(war, "0@0123>01,0@0>12"), 2);
  }

  private static int drawn(int x, int draws) {
    int drawn = x;
    for (int i = 0; i < draws; i++) {
      drawn = (25173 * drawn + 13849) % 65536;
    }
    return drawn;
  }

  /** "each TREATY, by numbers, with a DRAW", also where none can be broken. */
  private void aDrawForEach() {
    HueWar war = giver();
    war.days(5);
    is("no TREATY, no DRAW", war.count(4), 1);
    Due.treaties(war, "0@0>01");
    war.days(1);
    is("one", war.count(4), 25173 + 13849);
    Due.treaties(war, "0@1>01,0@2>01");
    war.days(2);
    is("six more", war.count(4), drawn(1, 7));
    Due.law(war, "b10(1=1)");
    is("all", war.days(2), 3);
    is("three more on the first DAY, none on the second one", war.count(4), drawn(1, 10));
  }

  /** "below b .. it is broken". */
  private void belowB() {
    for (int b = 0; b <= 11; b++) {
      // with these seeds the first DRAW is 0, 5, 9
      int[] seeds = {25, 2, 0};
      for (int i = 0; i < 3; i++) {
        HueWar war = giver();
        war.seed(seeds[i]);
        Due.treaties(war, "0@0>01");
        Due.law(war, "b" + b + "(1=1)");
        is("b " + b + ", seed " + seeds[i], war.days(1), new int[] {0, 5, 9}[i] < b ? 1 : 0);
        is("X", war.count(4), new int[] {53350, 64195, 13849}[i]);
      }
    }
  }

  /** "X = (25173 X + 13849) modulo 65536 (X is THE SEED at first, 1)". */
  private void draws() {
    int[] seeds = {0, 1, 2, 32767, 32768, 65534, 65535};
    int[] next = {13849, 39022, 64195, 21444, 46617, 29039, 54212};
    for (int i = 0; i < seeds.length; i++) {
      HueWar war = giver();
      Due.treaties(war, "0@0>01");
      if (seeds[i] != 1) {
        war.seed(seeds[i]);
      }
      war.days(1);
      is("X behind " + seeds[i], war.count(4), next[i]);
    }
  }

  /** "(it is broken:) the second EMPIRE has the COLOUR in its QUARTERS no more, the first one has it". */
  private void brokenGivenBack() {
    HueWar war = giver();
    Due.treaties(war, "0@13>04");
    Due.law(war, "b10(1=1)");
    is("broken", war.days(1), 1);
    for (int q = 0; q < 4; q++) {
      is("0 HAS it", war.count(100 + q), 1);
    }
    is("no TREATY", war.count(6), 0);
    is("none of number 0", war.treatyIs(0, 0), -1);
  }

  private void brokenSharedBack() {
    HueWar war = giver();
    Due.treaties(war, "0@12+05");
    is("shared", war.count(101), 33);
    Due.law(war, "b10(1=1)");
    is("broken", war.days(1), 1);
    is("0 alone", war.count(101), 1);
    is("0 alone", war.count(102), 1);
  }

  /** The same when others HAVE it by then: have() in between. */
  private void brokenWhenTheGiverHasIt() {
    HueWar war = giver();
    Due.treaties(war, "0@0>01,0@1>01");
    war.have(0, 0, 1 + 8);
    war.have(0, 1, 0);
    war.have(0, 2, 2);
    Due.law(war, "b10(1=1)");
    is("both are broken", war.days(1), 2);
    is("0 HAS it, 1 had it no more", war.count(100), 1 + 8);
    is("0 HAS it again", war.count(101), 1);
    is("not in its QUARTERS", war.count(102), 2);
  }

  /** "(those behind it have numbers less by 1)". */
  private void numbersLessByOne() {
    HueWar war = giver();
    Due.treaties(war, "0@0+01,0@0+02,0@0+03,0@0+04,0@0+05");
    Due.law(war, "b10(g=6&d=0);b10(g=4)");
    // the first one is broken with g 6; behind it g is 5
    is("one", war.days(1), 1);
    for (int i = 0; i < 6; i++) {
      is("the other one of number " + i, war.treatyIs(i, 3), i < 4 ? i + 2 : -1);
    }
    Due.law(war, "b10(g=5)");
    is("the first of four", war.days(1), 1);
    is("now number 0", war.treatyIs(0, 3), 3);
    is("now number 2", war.treatyIs(2, 3), 5);
    is("no number 3", war.treatyIs(3, 3), -1);
    Due.law(war, "b10(1=1)");
    is("all", war.days(1), 3);
    is("no number 0", war.treatyIs(0, 3), -1);
    is("0 alone", war.count(100), 1);
  }

  /** "b (asked then)": behind what TREATIES ahead of it did on that DAY. */
  private void askedThen() {
    HueWar war = giver();
    Due.treaties(war, "0@0+01,0@0+02");
    Due.law(war, "b10(g=3);b0(1=1)");
    is("g is 3, then 2", war.days(1), 1);
    is("0, 2", war.count(100), 5);
    is("g is 2", war.days(1), 0);
    HueWar other = giver();
    Due.treaties(other, "0@0+01,0@0+02");
    Due.law(other, "b10(g=2);b0(1=1)");
    is("g is 3 for both", other.days(1), 0);
    // a chain: the first one is broken, and 1, which it was given by, HAS it no more; the second one takes it from 2
    HueWar chain = giver();
    Due.treaties(chain, "0@0>01,0@0>12");
    Due.law(chain, "b10(1=1)");
    is("both", chain.days(1), 2);
    is("0, 1", chain.count(100), 3);
  }

  /** "q .. (in b the lowest one of the TREATY)"; "g .. in that QUARTER". */
  private void ofItsLowestQuarter() {
    HueWar war = giver();
    war.have(0, 1, 1 + 16 + 32);
    Due.treaties(war, "0@13+02");
    Due.law(war, "b10(q=3);b10(g=2)");
    is("neither 3 nor 2", war.days(1), 0);
    Due.law(war, "b10(q=1&g=4)");
    is("1 and 4", war.days(1), 1);
  }

  /** Promise 10: "DAYS (1 to 99) go by"; "NONE: no such n". */
  private void daysFrom1To99() {
    HueWar war = giver();
    Due.treaties(war, "0@0>01");
    for (int n : new int[] {0, -1, 100, 101, MIN, MAX}) {
      is("no n " + n, war.days(n), -1);
    }
    is("DAY 0", war.count(5), 0);
    is("no DRAW", war.count(4), 1);
    is("one", war.days(1), 0);
    is("DAY 1", war.count(5), 1);
    is("99", war.days(99), 0);
    is("DAY 100", war.count(5), 100);
    is("100 DRAWS", war.count(4), drawn(1, 100));
  }

  private static HueWar late(int day) {
    HueWar war = giver();
    for (int i = 0; i < day / 99; i++) {
      war.days(99);
    }
    if (day % 99 > 0) {
      war.days(day % 99);
    }
    return war;
  }

  /** "THE DAY is one more (9999 at most: then none goes by)"; promise 10: "(as many as can)". */
  private void the9999thDay() {
    HueWar war = late(9998);
    Due.treaties(war, "0@0>01");
    Due.law(war, "b10(d=9999);b0(1=1)");
    is("DAY 9998", war.count(5), 9998);
    is("one of two", war.days(2), 0);
    is("DAY 9999", war.count(5), 9999);
    is("one DRAW", war.count(4), drawn(1, 1));
    is("none", war.days(1), 0);
    is("none", war.days(99), 0);
    is("DAY 9999", war.count(5), 9999);
    is("no DRAW", war.count(4), drawn(1, 1));
    is("the TREATY stays", war.count(6), 1);
    is("still no n", war.days(100), -1);
    is("a TREATY of DAY 9999", Due.treaties(war, "0@1>01"), 1);
    is("its DAY", war.treatyIs(1, 5), 9999);
    HueWar other = late(9950);
    Due.treaties(other, "0@0>01");
    is("as many as can", other.days(99), 0);
    is("DAY 9999", other.count(5), 9999);
    is("49 DRAWS", other.count(4), drawn(1, 49));
  }

  /** Promise 11: "DAYS (1 to 99 ..)"; "NONE: no such ones". */
  private void triedFrom1To99() {
    HueWar war = giver();
    Due.treaties(war, "0@0>01");
    Due.law(war, "b10(d=98)");
    for (int n : new int[] {0, -1, 100, MIN, MAX}) {
      for (int what : new int[] {0, 1, 2, 10}) {
        is("no n " + n, war.tried(n, what), -1);
      }
    }
    is("98 are too few", war.tried(98, 0), 0);
    is("99", war.tried(99, 0), 1);
    is("on DAY 98", war.tried(99, 1), 98);
    is("1", war.tried(1, 0), 0);
  }

  /** Promise 11: "what 0 .., 1 .. (-2: none), 2 .. (the giver; -2), 10 + c .. plain COLOUR c". */
  private void triedWhat() {
    HueWar war = Due.mixed();
    war.have(0, 0, 4);
    war.have(0, 1, 4);
    war.have(1, 3, 32 + 16);
    for (int what = 0; what < 3; what++) {
      is("no TREATY at all", war.tried(9, what), what == 0 ? 0 : -2);
    }
    Due.treaties(war, "0@0+25,0@1>20");
    for (int what = 0; what < 3; what++) {
      is("none is broken", war.tried(9, what), what == 0 ? 0 : -2);
    }
    is("COLOUR 0 in 0 by 2, 5, in 1 by 0", war.tried(1, 10), 3);
    is("COLOUR 1 in 3 by 4, 5", war.tried(1, 11), 2);
    is("COLOUR 3 by nobody", war.tried(1, 13), 0);
    for (int what : new int[] {-1, 3, 4, 9, 12, 14, 15, 21, 22, 23, MIN, MAX, MIN + 9}) {
      is("no what " + what, war.tried(1, what), -1);
    }
    Due.law(war, "b10(d>3&q=1);b10(d=7)");
    is("on DAY 4", war.tried(9, 1), 4);
    is("by 2", war.tried(9, 2), 2);
    is("both", war.tried(9, 0), 2);
    is("both, on DAY 7", war.tried(8, 0), 2);
    is("one ahead of it", war.tried(7, 0), 1);
    is("none ahead of DAY 4", war.tried(4, 1), -2);
    is("none ahead of DAY 4", war.tried(4, 2), -2);
    is("COLOUR 0 in 0, 1 by 2", war.tried(9, 10), 2);
  }

  /** Promise 11: "(nothing is changed)". */
  private void triedChangesNothing() {
    HueWar war = giver();
    Due.treaties(war, "0@0>01,0@1+01");
    Due.law(war, "b10(1=1)");
    war.keep();
    is("both", war.tried(5, 0), 2);
    is("both again", war.tried(5, 0), 2);
    is("DAY", war.count(5), 0);
    is("X", war.count(4), 1);
    is("TREATIES", war.count(6), 2);
    is("given", war.count(100), 2);
    is("shared", war.count(101), 3);
    is("its number 1", war.treatyIs(1, 1), 2);
    is("as it is tried", war.days(5), 2);
  }

  /** Promise 11: "as many as can". */
  private void triedAsManyAsCan() {
    HueWar war = late(9998);
    Due.treaties(war, "0@0>01");
    Due.law(war, "b10(d=9999);b10(d=9998&1=2)");
    is("none goes by at 9999", war.tried(99, 0), 0);
    Due.law(war, "b10(d=9998)");
    is("the last one", war.tried(99, 0), 1);
    is("its DAY", war.tried(99, 1), 9998);
    war.days(1);
    is("none goes by", war.tried(1, 0), 0);
    is("none", war.tried(99, 1), -2);
    is("none", war.tried(99, 2), -2);
    is("as it is", war.tried(99, 10), 4);
  }

  /** Promise 12: "NONE for others". */
  private void treatyIsOfWhat() {
    HueWar war = Due.plain(0, 11);
    war.have(11, 0, 32);
    war.have(11, 3, 32);
    war.days(3);
    for (int what = -1; what < 8; what++) {
      is("none is there", war.treatyIs(0, what), -1);
    }
    Due.treaties(war, "11@03>50,11@0+01");
    int[][] parts = {{11, 9, 5, 0, 0, 3}, {11, 1, 0, 1, 1, 3}};
    for (int i = 0; i < 2; i++) {
      for (int what = 0; what < 6; what++) {
        is("TREATY " + i + ", " + what, war.treatyIs(i, what), parts[i][what]);
      }
      for (int what : new int[] {-1, 6, 7, -6, MIN, MAX}) {
        is("no what " + what, war.treatyIs(i, what), -1);
      }
    }
    for (int i : new int[] {-1, 2, 3, 15, 16, MIN, MAX}) {
      is("no TREATY " + i, war.treatyIs(i, 0), -1);
      is("no TREATY " + i, war.treatyIs(i, 5), -1);
    }
  }

  /** Promise 27: "THE SEED (0 to 65535; X, too)". */
  private void seeds() {
    HueWar war = new HueWar();
    is("X at first", war.count(4), 1);
    for (int x : new int[] {0, 65535, 1, 32768}) {
      is("seed " + x, war.seed(x), true);
      is("X", war.count(4), x);
      for (int wrong : new int[] {-1, 65536, 65537, MIN, MAX}) {
        is("no number " + wrong, war.seed(wrong), false);
        is("X stays", war.count(4), x);
      }
    }
  }

  /** Promise 28: "KEPT: how many TREATIES there are". */
  private void keptOnce() {
    HueWar war = giver();
    is("none", war.keep(), 0);
    Due.treaties(war, "0@0>01,0@1>01,0@2>01");
    is("three", war.keep(), 3);
    Due.law(war, "b10(q=1)");
    war.days(1);
    is("two", war.keep(), 2);
    is("two again", war.keep(), 2);
  }

  /** "KEPT: what EMPIRES HAVE, TREATIES, THE DAY, X, OWNERS; UNDONE: as they were KEPT last". */
  private void undoneToTheLast() {
    HueWar war = giver();
    war.seed(5);
    war.keep();
    Due.treaties(war, "0@0>01,0@1+01");
    war.days(3);
    war.owner(0, 0, 2);
    war.owner(7, 7, 5);
    war.keep();
    int x = war.count(4);
    Due.law(war, "b10(1=1)");
    war.days(2);
    war.owner(0, 0, 6);
    war.owner(7, 7, 0);
    war.owner(3, 3, 3);
    war.have(0, 3, 63);
    for (int i = 0; i < 2; i++) {
      is("undo", war.undo(), true);
      is("what they HAVE", war.count(100), 2);
      is("what they HAVE", war.count(101), 3);
      is("what they HAVE", war.count(103), 1);
      is("TREATIES", war.count(6), 2);
      is("its sign", war.treatyIs(1, 4), 1);
      is("THE DAY", war.count(5), 3);
      is("X", war.count(4), x);
      is("OWNERS", war.count(300), 2);
      is("OWNERS", war.count(363), 5);
      is("OWNERS", war.count(327), 6);
      war.days(1);
      war.have(0, 0, 0);
    }
  }

  /** Promise 29: "false: none was KEPT". */
  private void undoneWithoutKeep() {
    HueWar war = giver();
    war.days(4);
    war.owner(1, 0, 1);
    is("none was KEPT", war.undo(), false);
    is("THE DAY stays", war.count(5), 4);
    is("what they HAVE stays", war.count(100), 1);
    is("the OWNER stays", war.count(301), 1);
    war.keep();
    is("one was KEPT", war.undo(), true);
    is("THE DAY", war.count(5), 4);
  }

  /** COLOURS, THE LAW, THE LAND and the tape are not among what is KEPT. */
  private void whatIsNotKept() {
    HueWar war = giver();
    Due.law(war, "s(1=1)");
    war.keep();
    Due.law(war, "s(1=1);s(1=2)");
    war.colour(1, -1, -1);
    war.colour(2, 0, 1);
    war.have(1, 0, 7);
    Due.land(war, Due.land("abc5."));
    Due.feed(war, "s(1=1)");
    is("undo", war.undo(), true);
    is("COLOURS", war.count(0), 7);
    is("mixed ones", war.count(1), 4);
    is("CLAUSES", war.count(2), 2);
    is("a field", war.count(202), 2);
    is("the tape", war.count(3), 20);
    is("COLOUR 1 by nobody then", war.count(104), 0);
  }
}
