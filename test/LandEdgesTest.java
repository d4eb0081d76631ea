/** The boundary cases of THE LAND: its TEXT, OWNERS, UNSEEN, WAYS, WORTH, GAIN, POWER, ASH; one test a sentence. */
public final class LandEdgesTest {
  private static final int NO_GAIN = -1000000000;
  private static final int MIN = Integer.MIN_VALUE;
  private static final int MAX = Integer.MAX_VALUE;

  private final Due due = new Due("LandEdgesTest");

  public static void main(String[] args) {
    new LandEdgesTest().all();
  }

  private void all() {
    ownersOfFields();
    ownersFrom0To6();
    bytesOfALand();
    inPlaceOfTheOneBefore();
    theOneBeforeStays();
    eightRows();
    slashBetweenTwo();
    eightFields();
    digitAhead();
    lettersAToL();
    rowsEndAhead();
    tooManyInARow();
    notTold();
    ends();
    theFirstFromTheLeft();
    fieldsThatAreNotAsh();
    placesOfFields();
    bothAppearAlike();
    uniformsAreTold();
    placesOfUnseen();
    stepsToTheFourBeside();
    firstFieldIsNotCounted();
    lastFieldIsCounted();
    fromAFieldToItself();
    unseenIfThereIsAny();
    asLittleSeen();
    ofSuchTheFewestSteps();
    longestWays();
    fieldsOfAWay();
    worthOfFieldsThatAreSeen();
    worthOfItsOwnFields();
    worthOf64Fields();
    gainIfItHadIt();
    gainOfNone();
    gainCountsIt();
    powerOfOneToFive();
    powerWithJustAGroup();
    powerOnTheMean();
    powerWithoutADivisor();
    powerCountsIt();
    powerOfNone();
    ashOfALand();
    seas();
    ashOfNone();
    due.end();
  }

  private void is(String call, long got, long want) {
    due.is(call, got, want);
  }

  private void is(String call, boolean got, boolean want) {
    due.is(call, got, want);
  }

  /** EMPIRE 0 HAS 0 and 1 at dawn. */
  private static HueWar dawn(String... rows) {
    HueWar war = Due.plain(0, 1);
    war.have(0, 0, 1);
    war.have(1, 0, 1);
    Due.land(war, Due.land(rows));
    return war;
  }

  /** Promise 4: "The OWNER of a field"; "8 by 8 fields". */
  private void ownersOfFields() {
    HueWar war = new HueWar();
    is("the first field", war.owner(0, 0, 0), true);
    is("the last one", war.owner(7, 7, 5), true);
    is("x 7, y 0", war.owner(7, 0, 3), true);
    is("x 0, y 7", war.owner(0, 7, 4), true);
    is("the first field", war.count(300), 0);
    is("the last one", war.count(363), 5);
    is("8 y and x", war.count(307), 3);
    is("8 y and x", war.count(356), 4);
    for (int wrong : new int[] {-1, 8, 9, 64, MIN, MAX}) {
      is("no x " + wrong, war.owner(wrong, 1, 0), false);
      is("no y " + wrong, war.owner(1, wrong, 0), false);
    }
    for (int field = 8; field < 16; field++) {
      is("nobody's", war.count(300 + field), 6);
    }
  }

  /** Promise 4: "(6: nobody)"; "false: no such ones". */
  private void ownersFrom0To6() {
    HueWar war = new HueWar();
    for (int e = 0; e <= 6; e++) {
      is("owner " + e, war.owner(2, 3, e), true);
      is("it is " + e, war.count(326), e);
      for (int wrong : new int[] {-1, 7, 8, 12, MIN, MAX}) {
        is("no EMPIRE " + wrong, war.owner(2, 3, wrong), false);
      }
      is("it stays " + e, war.count(326), e);
    }
  }

  /** Promise 7: "the first n bytes of the tape (1 to 160; empty then)"; "NONE: as above". */
  private void bytesOfALand() {
    HueWar war = Due.plain(0);
    String longest = ("1a".repeat(8) + "/").repeat(8).substring(0, 135);
    is("each field with a digit", Due.land(war, longest), 64);
    Due.feed(war, longest + "x".repeat(30));
    for (int n : new int[] {161, 0, -1, 180, 181, MIN, MAX}) {
      is("no n " + n, war.land(n), -1);
    }
    is("the tape stays", war.count(3), 180);
    is("160", war.land(160), -1135);
    is("empty then", war.count(3), 0);
    is("not so many", war.land(15), -1);
    Due.feed(war, "8./8./8./8./8./8./8.");
    is("not so many", war.land(21), -1);
    is("the tape stays", war.count(3), 20);
    Due.feed(war, "/8a");
    is("its first 23", war.land(23), 8);
    is("empty then", war.count(3), 0);
    Due.feed(war, "8");
    is("1 byte", war.land(1), -1001);
    is("empty then", war.count(3), 0);
  }

  /** Promise 7: "likewise (OWNERS stay)". */
  private void inPlaceOfTheOneBefore() {
    HueWar war = dawn("8a", "8b");
    war.owner(0, 0, 3);
    is("another one", Due.land(war, Due.land("8.", "a7b")), 8);
    is("ash again", war.count(200), 12);
    is("another COLOUR", war.count(208), 0);
    is("as before", war.count(215), 1);
    is("the OWNER stays", war.count(300), 3);
    is("all ash", Due.land(war, Due.land()), 0);
  }

  /** Promise 7: "likewise": by a FAULT the one before stays. */
  private void theOneBeforeStays() {
    HueWar war = dawn("8a", "8b");
    for (String text : new String[] {Due.land("8.") + "/", Due.land("8b", "7b"), "9", Due.land("8b", "8c"), Due.land("8b", "9b"), "8b/8bb"}) {
      is("a FAULT in " + text, Due.land(war, text) <= -1000 ? 1 : 0, 1);
      for (int field = 0; field < 24; field++) {
        is("field " + field, war.count(200 + field), field < 8 ? 0 : field < 16 ? 1 : 12);
      }
      is("empty then", war.count(3), 0);
    }
  }

  private void fault(String text, int answer) {
    HueWar war = Due.plain(0, 1, 11);
    is("land " + text, Due.land(war, text), answer);
    is("empty behind " + text, war.count(3), 0);
  }

  /** "8 ROWS (y 0 on)". */
  private void eightRows() {
    fault("8a/8a/8a/8a/8a/8a/8a/8a", 64);
    fault("8a/8a/8a/8a/8a/8a/8a", -1020);
    fault("8a/8a/8a/8a/8a/8a/8a/", -1021);
    fault("8a", -1002);
    fault("8a/8a/8a/8a/8a/8a/8a/8a/", -1023);
    fault("8a/8a/8a/8a/8a/8a/8a/8a/8a", -1023);
  }

  /** "with a / between two". */
  private void slashBetweenTwo() {
    fault("/8a/8a/8a/8a/8a/8a/8a/8a", -1000);
    fault("8a//8a/8a/8a/8a/8a/8a/8a", -1003);
    fault("8a,8a/8a/8a/8a/8a/8a/8a", -1002);
    fault("8a;8a", -1002);
    fault("8a 8a", -1002);
    fault("8a0a", -1002);
    fault("8a9a", -1002);
  }

  /** "each of 8 fields (x 0 on)". */
  private void eightFields() {
    String seven = "/8./8./8./8./8./8./8.";
    fault("aaaaaaaa" + seven, 8);
    fault("8a" + seven, 8);
    fault("7ab" + seven, 8);
    fault("b7a" + seven, 8);
    fault("1b2a3b1a1b" + seven, 8);
    fault("........" + seven, 0);
    fault("aaaaaaa" + seven, -1007);
    fault("7a" + seven, -1002);
    fault("aaaaaaaaa" + seven, -6008);
  }

  /** "perhaps with a digit 1 to 8 ahead (so many times)". */
  private void digitAhead() {
    String seven = "/8./8./8./8./8./8./8.";
    for (int many = 1; many <= 8; many++) {
      fault(many + "a" + (many < 8 ? (8 - many) + "." : "") + seven, many);
    }
    fault("0a8." + seven, -1000);
    fault("9a" + seven, -1000);
    fault("a0a6." + seven, -1001);
    fault("10a" + seven, -1001);
    fault("12a5." + seven, -1001);
    fault("2/" + seven, -1001);
    fault("2", -1001);
    fault("2 a", -1001);
    fault("a2", -1002);
    fault("22", -1001);
    fault("2m", -1001);
  }

  /** "a letter a to l (COLOURS 0 to 11), or a dot, 46 (ash)". */
  private void lettersAToL() {
    HueWar war = Due.plain(0, 1, 2, 3, 4, 5, 6, 7, 8, 9, 10, 11);
    is("all letters", Due.land(war, Due.land("abcdefgh", "ijkl" + (char) 46 + "...")), 12);
    for (int field = 0; field < 16; field++) {
      is("field " + field, war.count(200 + field), Math.min(field, 12));
    }
    for (char sign = 0; sign < 256; sign++) {
      boolean isField = sign >= 'a' && sign <= 'l' || sign == '.';
      boolean isDigit = sign >= '1' && sign <= '8';
      HueWar other = Due.plain(0, 1, 2, 3, 4, 5, 6, 7, 8, 9, 10, 11);
      is("the sign " + (int) sign, Due.land(other, "" + sign), isField || isDigit ? -1001 : -1000);
    }
  }

  /** "1 what can't stand there (.. a ROW's end ahead of its 8th field)". */
  private void rowsEndAhead() {
    fault("/", -1000);
    fault("a/", -1001);
    fault("7a/", -1002);
    fault("7a", -1002);
    fault("aaaaaaa", -1007);
    fault("8a/7a/8a", -1005);
    fault("8a/8a/8a/8a/8a/8a/8a/7a", -1023);
    fault("8a/8a/8a/8a/8a/8a/8a/7a/", -1023);
    fault("", -1);
  }

  /** "6 more than 8 in a ROW, at the letter, the dot, or the digit (asked ahead of what follows it) that is too many". */
  private void tooManyInARow() {
    fault("8aa", -6002);
    fault("8a.", -6002);
    fault("8a1", -6002);
    fault("8a8", -6002);
    fault("8a1x", -6002);
    fault("8a0", -1002);
    fault("8a9", -1002);
    fault("8ax", -1002);
    fault("7a2", -6002);
    fault("7a2x", -6002);
    fault("7a2/", -6002);
    fault("7a1x", -1003);
    fault("7a1a1", -6004);
    fault("a8", -6001);
    fault("a8a", -6001);
    fault("a7", -1002);
    fault("aaaaaaaaa", -6008);
    fault("aaaaaaaa1", -6008);
    fault("2a2b2.3a", -6006);
    fault("8a/8a/8a/8a/8a/8a/8a/8aa", -6023);
    fault("8a/8a/8a/8a/8a/8a/8a/8a.", -6023);
    fault("8a/8a/8a/8a/8a/8a/8a/8a1", -6023);
  }

  /** "7 a COLOUR that is not told, at its letter". */
  private void notTold() {
    fault("c", -7000);
    fault("8c", -7001);
    fault("ac", -7001);
    fault("7ak", -7002);
    fault("7a1c", -7003);
    fault("8l/8k", -7004);
    fault("8a/8a/8a/8a/8a/8a/8a/7ac", -7023);
    fault("m", -1000);
    HueWar war = new HueWar();
    is("no COLOUR is told", Due.land(war, "a"), -7000);
    is("all ash", Due.land(war, Due.land()), 0);
    war.colour(0, -1, -1);
    war.colour(1, -1, -1);
    is("not told yet", Due.land(war, Due.land("c7.")), -7000);
    war.colour(2, 0, 1);
    is("a mixed one", Due.land(war, Due.land("c7.")), 1);
  }

  /** "1 what can't stand there (the end, too)", at each place of a TEXT. */
  private void ends() {
    String text = "2a3.abl/8./8./8b/8./8./8./4.2a2.";
    fault(text, 2 + 3 + 8 + 2);
    for (int n = 1; n < text.length(); n++) {
      fault(text.substring(0, n), -1000 - n);
    }
    for (int n = 0; n <= text.length(); n++) {
      fault(text.substring(0, n) + "$" + text.substring(n), -1000 - n);
    }
  }

  /** "FAULTS, the first from the left". */
  private void theFirstFromTheLeft() {
    fault("c8aax", -7000);
    fault("8aac", -6002);
    fault("xc", -1000);
    fault("3c9", -7001);
    fault("a9c", -1001);
    fault("7a/8c", -1002);
  }

  /** Promise 7: "how many fields are not ash". */
  private void fieldsThatAreNotAsh() {
    HueWar war = Due.mixed();
    is("none", Due.land(war, Due.land()), 0);
    is("one", Due.land(war, Due.land("8.", "8.", "8.", "8.", "8.", "8.", "8.", "7.a")), 1);
    is("mixed ones, too", Due.land(war, Due.land("8c", "4e4.")), 12);
    is("all, though nobody sees them", Due.land(war, "8a/8a/8a/8a/8a/8a/8a/8a"), 64);
  }

  /** Promise 31: "200 + f the COLOUR (12: ash)". */
  private void placesOfFields() {
    HueWar war = dawn("a6.b", "8.", "8.", "8.", "8.", "8.", "8.", "b6.a");
    for (int field = 0; field < 64; field++) {
      is("field " + field, war.count(200 + field), field == 0 || field == 63 ? 0 : field == 7 || field == 56 ? 1 : 12);
    }
  }

  /** "one is not seen by an EMPIRE in a QUARTER, if both appear to it alike", ash, too. */
  private void bothAppearAlike() {
    HueWar war = Due.mixed();
    war.have(0, 0, 1);
    war.have(3, 0, 2);
    Due.land(war, Due.land("abcde3."));
    // to EMPIRE 0: 0 . 0 . 0 .; to EMPIRE 1: . . . 3 3 .
    int[][] unseen = {{1, 0, 1, 0, 1, 0}, {0, 1, 0, 1, 0, 1}};
    for (int x = 0; x < 6; x++) {
      is("uniform 0 to 0", war.unseen(x, 0, 0, 0, 0), unseen[0][x]);
      is("uniform 2 to 0", war.unseen(x, 0, 2, 0, 0), unseen[0][x]);
      is("uniform 1, as ash, to 0", war.unseen(x, 0, 1, 0, 0), unseen[1][x]);
      is("uniform 4 to 1", war.unseen(x, 0, 4, 1, 0), x == 3 || x == 4 ? 1 : 0);
      is("uniform 0, as ash, to 1", war.unseen(x, 0, 0, 1, 0), x == 3 || x == 4 ? 0 : 1);
      is("all is ash to 2", war.unseen(x, 0, 4, 2, 0), 1);
      is("all is ash at noon", war.unseen(x, 0, 0, 0, 1), 1);
    }
  }

  /** Promises 16, 17: "a uniform (told)"; "NONE: no such ones". */
  private void uniformsAreTold() {
    HueWar war = Due.plain(0);
    for (int c : new int[] {-1, 1, 11, 12, 13, 32, MIN, MAX}) {
      is("no uniform " + c, war.unseen(0, 0, c, 0, 0), -1);
      for (int what = 0; what < 3; what++) {
        is("no uniform " + c, war.way(0, 1, c, 0, 0, what), -1);
      }
    }
    is("a uniform that nobody sees", war.unseen(0, 0, 0, 0, 0), 1);
    is("a way in it", war.way(0, 1, 0, 0, 0, 0), 1);
  }

  /** Promise 16: "on a field"; "NONE: no such ones". */
  private void placesOfUnseen() {
    HueWar war = dawn("8.", "8.", "8.", "8.", "8.", "8.", "8.", "7.a");
    is("the last field", war.unseen(7, 7, 0, 0, 0), 1);
    is("the first field", war.unseen(0, 0, 0, 0, 0), 0);
    for (int wrong : new int[] {-1, 8, 63, MIN, MAX}) {
      is("no x " + wrong, war.unseen(wrong, 0, 0, 0, 0), -1);
      is("no y " + wrong, war.unseen(0, wrong, 0, 0, 0), -1);
    }
  }

  private void way(HueWar war, int a, int b, int none, int seen, int steps) {
    is("way " + a + " to " + b, war.way(a, b, 0, 0, 0, 0), none);
    is("seen from " + a + " to " + b, war.way(a, b, 0, 0, 0, 1), seen);
    is("steps from " + a + " to " + b, war.way(a, b, 0, 0, 0, 2), steps);
  }

  /** "by steps to the 4 fields beside". */
  private void stepsToTheFourBeside() {
    HueWar war = dawn("8.", "3.a4.", "2.aaa3.", "3.a4.");
    way(war, 19, 11, 1, 0, 1);
    way(war, 19, 18, 1, 0, 1);
    way(war, 19, 20, 1, 0, 1);
    way(war, 19, 27, 1, 0, 1);
    way(war, 18, 11, 2, 0, 2);
    way(war, 19, 10, -2, 1, 2);
    // not over a corner, and not over the end of a ROW
    HueWar corner = dawn("a.5.a", "ba5.b", "a7.");
    way(corner, 0, 9, -2, 1, 2);
    way(corner, 0, 16, -2, 1, 2);
    way(corner, 7, 8, -2, 7, 8);
    way(corner, 0, 7, -2, 6, 7);
    way(corner, 0, 56, -2, 6, 7);
    HueWar all = dawn("8a", "8a", "8a", "8a", "8a", "8a", "8a", "8a");
    way(all, 7, 8, 8, 0, 8);
    way(all, 0, 7, 7, 0, 7);
    way(all, 0, 56, 7, 0, 7);
    way(all, 0, 63, 14, 0, 14);
    way(all, 63, 0, 14, 0, 14);
    way(all, 56, 7, 14, 0, 14);
  }

  /** "on no field (but the first) seen"; "(the first not counted)". */
  private void firstFieldIsNotCounted() {
    HueWar war = dawn(".aaa4.");
    way(war, 0, 3, 3, 0, 3);
    way(war, 0, 1, 1, 0, 1);
    way(war, 8, 1, -2, 1, 2);
    way(war, 8, 9, -2, 1, 1);
  }

  private void lastFieldIsCounted() {
    HueWar war = dawn("aaa5.");
    way(war, 0, 2, 2, 0, 2);
    way(war, 0, 3, -2, 1, 3);
    way(war, 0, 8, -2, 1, 1);
    way(war, 0, 4, -2, 2, 4);
  }

  private void fromAFieldToItself() {
    HueWar war = dawn("a7.");
    way(war, 0, 0, 0, 0, 0);
    way(war, 63, 63, 0, 0, 0);
  }

  /** "what 0 steps on no field seen (-2: there is none)". */
  private void unseenIfThereIsAny() {
    HueWar war = dawn("aa.aa3.", "a.aaa3.", "aaa5.");
    way(war, 0, 3, 7, 0, 7);
    way(war, 1, 3, 8, 0, 8);
    HueWar cut = dawn("aa.aa3.", "a.aaa3.", "aa6.");
    way(cut, 0, 3, -2, 1, 3);
    way(cut, 0, 4, -2, 1, 4);
    way(cut, 17, 10, -2, 1, 2);
    is("another uniform", cut.way(0, 3, 1, 0, 0, 0), -2);
    is("another QUARTER", cut.way(0, 3, 0, 0, 1, 0), 3);
    is("another EMPIRE", cut.way(0, 3, 0, 1, 0, 0), 3);
  }

  /** "AS LITTLE SEEN: the fewest fields on which one is seen". */
  private void asLittleSeen() {
    HueWar war = dawn("a2.aaaaa", "a6.a", "a6.a", "a6.a", "8a", "8.", "8.", "8.");
    // two steps seen, or none by a long way
    way(war, 0, 3, 19, 0, 19);
    HueWar seen = dawn("a2.aaaa.", "a6.a", "a6.a", "a6.a", "8a", "8.", "8.", "8.");
    // two steps seen, or one by a long way
    way(seen, 0, 3, -2, 1, 19);
    HueWar two = dawn("a2.aaa2.", "a6.a", "a6.a", "a6.a", "8a", "8.", "8.", "8.");
    way(two, 0, 3, -2, 2, 3);
  }

  /** "of such the fewest steps". */
  private void ofSuchTheFewestSteps() {
    HueWar war = dawn("a.a5.", "aaa5.", "8.");
    way(war, 0, 2, 4, 0, 4);
    HueWar seen = dawn("a.a5.", "a.a5.", "aaa5.");
    way(seen, 0, 2, 6, 0, 6);
    HueWar even = dawn("a.aaa3.", "a.a5.", "a.a5.", "a2.5.");
    way(even, 0, 2, -2, 1, 2);
    way(even, 0, 4, -2, 1, 4);
    way(even, 8, 10, -2, 1, 2);
    way(even, 24, 4, -2, 1, 7);
    way(dawn(), 0, 63, -2, 14, 14);
    way(dawn(), 0, 1, -2, 1, 1);
  }

  private void longestWays() {
    HueWar snake = dawn("8a", "7.a", "8a", "a7.", "8a", "7.a", "8a", "a7.");
    way(snake, 0, 56, 35, 0, 35);
    way(snake, 56, 0, 35, 0, 35);
    way(snake, 0, 48, 34, 0, 34);
    way(snake, 0, 55, 27, 0, 27);
    way(snake, 0, 63, -2, 1, 28);
    // up and down by columns
    HueWar tight = dawn("a.aaa.aa", "a.a.a.a.", "a.a.a.aa", "a.a.a..a", "a.a.a..a", "a.a.a.aa", "a.a.a.a.", "aaa.aaa.");
    way(tight, 0, 2, 16, 0, 16);
    way(tight, 0, 4, 18, 0, 18);
    way(tight, 0, 6, 36, 0, 36);
    way(tight, 6, 0, 36, 0, 36);
  }

  /** Promise 17: "from field a to field b (8 y and x)"; "NONE: no such ones". */
  private void fieldsOfAWay() {
    HueWar war = dawn("8a");
    for (int wrong : new int[] {-1, 64, 65, MIN, MAX}) {
      for (int what = 0; what < 3; what++) {
        is("no field " + wrong, war.way(wrong, 0, 0, 0, 0, what), -1);
        is("no field " + wrong, war.way(0, wrong, 0, 0, 0, what), -1);
      }
    }
    for (int wrong : new int[] {-1, 3, 10, MIN, MAX}) {
      is("no what " + wrong, war.way(0, 1, 0, 0, 0, wrong), -1);
      is("no what " + wrong, war.way(0, 63, 0, 0, 0, wrong), -1);
    }
    is("8 y and x", war.way(0, 8, 0, 0, 0, 0), -2);
    is("8 y and x", war.way(0, 7, 0, 0, 0, 0), 7);
  }

  /** "WORTH of THE LAND to an EMPIRE in a QUARTER: v of each of its fields whose COLOUR it sees". */
  private void worthOfFieldsThatAreSeen() {
    HueWar war = Due.mixed();
    war.have(0, 0, 1);
    war.have(3, 1, 1);
    Due.land(war, Due.land("abcde3."));
    for (int x = 0; x < 8; x++) {
      war.owner(x, 0, 0);
    }
    is("without a LAW", war.worth(0, 0), 0);
    Due.law(war, "v10+c(1=1)");
    is("0 alone", war.worth(0, 0), 10);
    is("3 alone", war.worth(0, 1), 13);
    is("none", war.worth(0, 2), 0);
    Due.law(war, "v10+c(1=1);s(c=2&a=1|c=4&b=1)");
    is("2, by a part of it", war.worth(0, 0), 10 + 12);
    is("4, by a part of it", war.worth(0, 1), 13 + 14);
  }

  private void worthOfItsOwnFields() {
    HueWar war = dawn("8a", "8b");
    Due.law(war, "v10+c(1=1)");
    is("none of its own", war.worth(0, 0), 0);
    war.owner(7, 1, 0);
    is("one", war.worth(0, 0), 11);
    war.owner(0, 0, 1);
    is("another one's", war.worth(0, 0), 11);
    is("it has it not", war.worth(1, 0), 0);
    war.owner(0, 7, 0);
    is("ash", war.worth(0, 0), 11);
    war.owner(7, 1, 6);
    is("nobody's", war.worth(0, 0), 0);
    for (int wrong : new int[] {-1, 6, 7, MIN, MAX}) {
      is("no EMPIRE", war.worth(wrong, 0), -1);
    }
  }

  private void worthOf64Fields() {
    HueWar war = Due.plain(0);
    war.have(0, 3, 32);
    for (int field = 0; field < 64; field++) {
      war.owner(field % 8, field / 8, 5);
    }
    Due.land(war, "8a/8a/8a/8a/8a/8a/8a/8a");
    Due.law(war, "v99999(1=1)");
    is("99 each", war.worth(5, 3), 64 * 99);
    Due.law(war, "vn(1=1)");
    is("64 each", war.worth(5, 3), 64 * 64);
    Due.law(war, "v0-1(1=1)");
    is("0 each", war.worth(5, 3), 0);
  }

  /** "GAIN: by how much that were more, if it HAD a plain COLOUR in that QUARTER, too". */
  private void gainIfItHadIt() {
    HueWar war = Due.mixed();
    war.have(0, 0, 1);
    war.have(1, 1, 1);
    Due.land(war, Due.land("abcde3."));
    for (int x = 0; x < 8; x++) {
      war.owner(x, 0, 0);
    }
    is("without a LAW", war.gain(0, 1, 0), 0);
    Due.law(war, "v10+c(1=1)");
    is("1, and 2 by it", war.gain(0, 1, 0), 11 + 12);
    is("3", war.gain(0, 3, 0), 13);
    is("0, and 2 by it, at noon", war.gain(0, 0, 1), 10 + 12);
    is("0 alone at dusk", war.gain(0, 0, 2), 10);
    is("nothing is changed", war.worth(0, 0), 10);
    is("nothing is changed", war.count(104), 0);
    is("no fields", war.gain(1, 1, 0), 0);
    Due.law(war, "s(c=2&b=0);v30(c=2);v10(1=1)");
    is("below 0", war.gain(0, 1, 0), 10 - 30);
  }

  /** Promise 19: "-1000000000: no such ones, it HAS it". */
  private void gainOfNone() {
    HueWar war = Due.mixed();
    war.have(0, 0, 1);
    is("it HAS it", war.gain(0, 0, 0), NO_GAIN);
    is("not at noon", war.gain(0, 0, 1), 0);
    is("another one has it not", war.gain(1, 0, 0), 0);
    is("a mixed one", war.gain(0, 2, 0), NO_GAIN);
    is("not told", war.gain(0, 5, 0), NO_GAIN);
    for (int wrong : new int[] {-1, 12, 32, MIN, MAX}) {
      is("no COLOUR " + wrong, war.gain(1, wrong, 0), NO_GAIN);
      is("no EMPIRE " + wrong, war.gain(wrong, 0, 1), NO_GAIN);
      is("no QUARTER " + wrong, war.gain(1, 0, wrong), NO_GAIN);
    }
  }

  /** "if it HAD a plain COLOUR": it is one more of those (g). */
  private void gainCountsIt() {
    HueWar war = Due.plain(0, 1);
    war.have(0, 0, 2 + 4);
    Due.land(war, Due.land("ab6."));
    war.owner(0, 0, 0);
    war.owner(1, 0, 0);
    Due.law(war, "v10*g(1=1)");
    is("three", war.gain(0, 0, 0), 30);
    is("one", war.gain(0, 1, 0), 10);
    is("nothing is changed", war.count(100), 6);
  }

  private void power(HueWar war, int colours, int c, int above, int below) {
    is("power of " + c + " in " + colours, war.power(colours, c, 0, 0, 0), above);
    is("below " + c + " in " + colours, war.power(colours, c, 0, 0, 1), below);
  }

  /** COLOURS 0 to 5 plain; 6 of 0 and 1, 7 of 6 and 2, 8 of 7 and 3, 9 of 8 and 4; EMPIRE 0 owns a field in each. */
  private static HueWar chain() {
    HueWar war = Due.plain(0, 1, 2, 3, 4, 5);
    war.colour(6, 0, 1);
    war.colour(7, 6, 2);
    war.colour(8, 7, 3);
    war.colour(9, 8, 4);
    Due.land(war, Due.land("abcdefgh", "ij6."));
    for (int field = 0; field < 10; field++) {
      war.owner(field % 8, field / 8, 0);
    }
    return war;
  }

  /** "POWER of told plain COLOURS (1 to 5)". */
  private void powerOfOneToFive() {
    HueWar war = chain();
    Due.law(war, "v7(c=0);v60(c=9)");
    power(war, 1, 0, 7, 1);
    power(war, 2, 1, 0, 1);
    power(war, 3, 0, 7, 1);
    power(war, 31, 0, 19, 1);
    power(war, 31, 4, 12, 1);
    power(war, 62, 1, 0, 1);
    is("none", war.power(0, 0, 0, 0, 0), NO_GAIN);
    is("six", war.power(63, 0, 0, 0, 0), NO_GAIN);
    is("six", war.power(63, 0, 0, 0, 1), NO_GAIN);
    is("a mixed one", war.power(64, 6, 0, 0, 0), NO_GAIN);
    is("with a mixed one", war.power(65, 0, 0, 0, 0), NO_GAIN);
    is("not told", war.power(1 << 10, 10, 0, 0, 0), NO_GAIN);
    is("with one that is not told", war.power(1 + (1 << 11), 0, 0, 0, 0), NO_GAIN);
    is("ash", war.power(1 << 12, 12, 0, 0, 0), NO_GAIN);
    for (int wrong : new int[] {-1, -2, MIN, MAX, MIN + 1, 1 << 30}) {
      is("no set " + wrong, war.power(wrong, 0, 0, 0, 0), NO_GAIN);
    }
  }

  /** "with just a group of them (and no other plain ones) seen, WORTH then", whatever it HAS. */
  private void powerWithJustAGroup() {
    HueWar war = chain();
    Due.law(war, "v10(c=6);v1(1=1)");
    for (int havers = 0; havers < 2; havers++) {
      for (int c = 0; c < 6; c++) {
        war.have(c, 0, havers);
      }
      power(war, 1, 0, 1, 1);
      power(war, 3, 0, 6, 1);
      power(war, 7, 2, 1 * 3 + 1, 3);
    }
    // a mixed one by a LAW that asks for no part is seen with each group, and is nobody's part
    Due.law(war, "v10(c=6);s(c=6)");
    power(war, 1, 0, 0, 1);
    power(war, 3, 1, 0, 1);
  }

  /** "each one's part by all orders in which they may come together, on the mean". */
  private void powerOnTheMean() {
    HueWar war = chain();
    Due.law(war, "v1+c(c<6);v6(c=6);v9(c=7)");
    power(war, 3, 0, 1 + 3, 1);
    power(war, 3, 1, 2 + 3, 1);
    power(war, 7, 0, 1 + 3 + 3, 1);
    power(war, 7, 2, 3 + 3, 1);
    power(war, 5, 2, 3, 1);
    // seen by one part of two: who comes first brings it
    Due.law(war, "s(c=6&a+b>0);v9(c=6)");
    power(war, 3, 0, 9, 2);
    power(war, 1, 0, 9, 1);
    // seen by the first one, and hidden by the second one
    Due.law(war, "s(c=6&a=1&b=0);v9(c=6)");
    power(war, 3, 0, 9, 2);
    power(war, 3, 1, -9, 2);
    power(war, 2, 1, 0, 1);
  }

  /** Promise 20: "without a common divisor". */
  private void powerWithoutADivisor() {
    HueWar war = chain();
    Due.law(war, "v1(c=9)");
    power(war, 31, 0, 1, 5);
    Due.law(war, "v10(c=9)");
    power(war, 31, 0, 2, 1);
    Due.law(war, "v1(c=7)");
    power(war, 7, 0, 1, 3);
    power(war, 15, 3, 0, 1);
    Due.law(war, "v99(c=8)");
    power(war, 15, 3, 99, 4);
    Due.law(war, "v98(c=8)");
    power(war, 15, 3, 49, 2);
    // 1 part of 6 and 1 of 7: 1 / 2 + 1 / 3
    Due.law(war, "v1(c=6);v1(c=7)");
    power(war, 7, 0, 5, 6);
    power(war, 7, 2, 1, 3);
    // 1 / 2 + 1 / 3 + 1 / 4 + 1 / 5
    Due.law(war, "v1(c>5)");
    power(war, 31, 1, 77, 60);
    power(war, 31, 2, 47, 60);
    power(war, 31, 3, 9, 20);
    power(war, 31, 4, 1, 5);
    Due.law(war, "s(c=6&a=1&b=0);v1(c=6)");
    power(war, 3, 1, -1, 2);
    Due.law(war, "s(c=6&a=1&b=0);v2(c=6)");
    power(war, 3, 1, -1, 1);
  }

  /** With a group seen, the EMPIRE is one of those that HAVE each COLOUR of it (g), once. */
  private void powerCountsIt() {
    HueWar war = chain();
    war.have(0, 0, 2 + 4);
    war.have(1, 0, 1);
    Due.law(war, "v10*g(1=1)");
    power(war, 1, 0, 30, 1);
    power(war, 2, 1, 10, 1);
    power(war, 4, 2, 10, 1);
    power(war, 3, 0, 30, 1);
    is("nothing is changed", war.count(100), 6);
    is("nothing is changed", war.count(104), 1);
  }

  /** Promise 20: "below the line of COLOUR c of them"; "-1000000000: no such ones". */
  private void powerOfNone() {
    HueWar war = chain();
    for (int what = 0; what < 2; what++) {
      is("not of them", war.power(3, 2, 0, 0, what), NO_GAIN);
      is("a mixed one", war.power(3, 6, 0, 0, what), NO_GAIN);
      for (int wrong : new int[] {-1, 11, 12, 32, 33, MIN, MAX}) {
        is("no COLOUR " + wrong, war.power(3, wrong, 0, 0, what), NO_GAIN);
        is("no EMPIRE " + wrong, war.power(3, 0, wrong, 0, what), NO_GAIN);
        is("no QUARTER " + wrong, war.power(3, 0, 0, wrong, what), NO_GAIN);
      }
    }
    for (int wrong : new int[] {-1, 2, 3, MIN, MAX}) {
      is("no what " + wrong, war.power(3, 0, 0, 0, wrong), NO_GAIN);
    }
    power(war, 3, 0, 0, 1);
  }

  private void ash(HueWar war, int e, int fields, int largest, int seas) {
    is("fields", war.ash(e, 0, 0), fields);
    is("largest", war.ash(e, 0, 1), largest);
    is("seas", war.ash(e, 0, 2), seas);
  }

  /** "how many fields appear to an EMPIRE as ash in a QUARTER". */
  private void ashOfALand() {
    ash(new HueWar(), 5, 64, 64, 1);
    HueWar war = Due.mixed();
    war.have(0, 0, 1);
    Due.land(war, "8a/8a/8a/8a/8a/8a/8a/8a");
    ash(war, 0, 0, 0, 0);
    ash(war, 1, 64, 64, 1);
    Due.land(war, "8a/8b/8c/8d/8e/8a/8a/8a");
    ash(war, 0, 16, 8, 2);
    Due.land(war, ".7a/8a/8a/8a/8a/8a/8a/8a");
    ash(war, 0, 1, 1, 1);
    Due.land(war, "8a/8a/8a/8a/8a/8a/8a/7a.");
    ash(war, 0, 1, 1, 1);
    is("at noon", war.ash(0, 1, 0), 64);
  }

  /** "the largest sea of these (4 ways)". */
  private void seas() {
    // not over corners, not over the end of a ROW
    HueWar war = dawn("6a2.", ".7a", "a.6a", "8a", "8a", "8a", "8a", "8a");
    ash(war, 0, 4, 2, 3);
    Due.land(war, ".a.a.a.a/a.a.a.a./.a.a.a.a/a.a.a.a./.a.a.a.a/a.a.a.a./.a.a.a.a/a.a.a.a.");
    ash(war, 0, 32, 1, 32);
    Due.land(war, "8./.6a./.a4.a./.a.2a.a./.a.2a.a./.a4.a./.6a./8.");
    ash(war, 0, 28 + 12, 28, 2);
    Due.land(war, "8./7a./8./.7a/8./7a./8./.7a");
    ash(war, 0, 36, 36, 1);
    Due.land(war, ".a6./.a.4a./.a.a2.a./.a.a.aa./.a.a4./.a.5a/.a6./8a");
    ash(war, 0, 7 + 3 + 5 + 4 + 6 + 2 + 7, 27, 2);
    // the first one is larger; the last one is larger; all are alike
    Due.land(war, "3.a.3a/8a/8a/8a/8a/8a/8a/8a");
    ash(war, 0, 4, 3, 2);
    Due.land(war, ".a3.3a/8a/8a/8a/8a/8a/8a/8a");
    ash(war, 0, 4, 3, 2);
    Due.land(war, "2.a2.a2./8a/8a/8a/8a/8a/8a/8a");
    ash(war, 0, 6, 2, 3);
  }

  /** Promise 26: "NONE: no such ones". */
  private void ashOfNone() {
    HueWar war = dawn("8a");
    for (int wrong : new int[] {-1, 3, 4, MIN, MAX}) {
      is("no what " + wrong, war.ash(0, 0, wrong), -1);
    }
    for (int wrong : new int[] {-1, 6, 32, MIN, MAX}) {
      is("no EMPIRE " + wrong, war.ash(wrong, 0, 0), -1);
      is("no QUARTER " + wrong, war.ash(0, wrong, 0), -1);
    }
    is("EMPIRE 0 at dawn", war.ash(0, 0, 0), 56);
    is("EMPIRE 5 at night", war.ash(5, 3, 0), 64);
  }
}
