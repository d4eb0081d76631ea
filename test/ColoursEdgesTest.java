/** The boundary cases of COLOURS, of who HAS and who sees them, and of what they appear as; one test a sentence. */
public final class ColoursEdgesTest {
  private static final int NO_GAIN = -1000000000;
  private static final int MIN = Integer.MIN_VALUE;
  private static final int MAX = Integer.MAX_VALUE;

  private final Due due = new Due("ColoursEdgesTest");

  public static void main(String[] args) {
    new ColoursEdgesTest().all();
  }

  private void all() {
    newObject();
    coloursTo11();
    ashIsNobodys();
    coloursToldOrNot();
    plainByTwoNones();
    mixedOfTwoOthers();
    theTwoAlike();
    notLower();
    notTold();
    toldOnce();
    empiresTo5();
    quartersTo3();
    noneHaveItAtFirst();
    sixBits();
    haveTakesThePlace();
    mixedAreNotHad();
    plainAreSeenByThoseWhoHave();
    mixedByBothParts();
    mixedByAnyClauseOfS();
    lawWithoutS();
    partsThatAreMixed();
    seenAppearAsTheyAre();
    plainAppearAsAsh();
    mixedAppearAsParts();
    elevenMixed();
    ashAppearsAsAsh();
    childWithoutK();
    childByAnyClauseOfK();
    childOfOneAndTheSame();
    childOfMixed();
    due.end();
  }

  private void is(String call, long got, long want) {
    due.is(call, got, want);
  }

  private void is(String call, boolean got, boolean want) {
    due.is(call, got, want);
  }

  /** Promise 1: "No COLOURS, LAW; a land of ash; THE SEED 1"; "A DAY (0 at first)"; "nobody: at first". */
  private void newObject() {
    HueWar war = new HueWar();
    int[] first = {0, 0, 0, 0, 1, 0, 0};
    for (int what = 0; what < first.length; what++) {
      is("count " + what, war.count(what), first[what]);
    }
    for (int c = 0; c < 12; c++) {
      is("no COLOUR is mixed", war.count(10 + c), -1);
      is("no COLOUR is told", war.sees(0, c, 0), -1);
    }
    for (int field = 0; field < 64; field++) {
      is("ash", war.count(200 + field), 12);
      is("nobody's", war.count(300 + field), 6);
    }
    is("no TREATY", war.treatyIs(0, 0), -1);
    is("nothing KEPT", war.undo(), false);
    is("no worth", war.worth(0, 0), 0);
    is("ash all over", war.ash(5, 3, 1), 64);
  }

  /** "COLOURS 0 to 11". */
  private void coloursTo11() {
    HueWar war = new HueWar();
    for (int c : new int[] {-1, -2, 12, 13, 32, 44, MIN, MAX}) {
      is("no COLOUR " + c, war.colour(c, -1, -1), false);
    }
    is("none is told", war.count(0), 0);
    for (int c = 0; c < 12; c++) {
      is("COLOUR " + c, war.colour(c, -1, -1), true);
      is("told up to " + c, war.count(0), (2 << c) - 1);
    }
    is("not one more", war.colour(12, 0, 1), false);
    is("told", war.count(0), 4095);
  }

  /** "ash, 12, is what nobody has". */
  private void ashIsNobodys() {
    HueWar war = Due.plain(0, 1, 2, 3, 4, 5, 6, 7, 8, 9, 10, 11);
    is("have", war.have(12, 0, 1), false);
    is("sees", war.sees(0, 12, 0), -1);
    is("appears", war.appears(0, 12, 0), 12);
    is("child", war.child(0, 1, 12, 0), -1);
    is("unseen", war.unseen(0, 0, 12, 0, 0), -1);
    is("way", war.way(0, 1, 12, 0, 0, 0), -1);
    is("gain", war.gain(0, 12, 0), NO_GAIN);
    is("power", war.power(1 << 12, 12, 0, 0, 0), NO_GAIN);
    is("tried", war.tried(1, 22), -1);
    is("painting", war.painting(1 << 12, 0), -1);
    is("parts", war.count(22), -1);
    is("given away", Due.treaties(war, "12@0>01"), -3000);
    is("shown", Due.spies(war, 0, 12, 0, 0), -2);
  }

  /** "COLOURS .. told or not". */
  private void coloursToldOrNot() {
    HueWar war = Due.plain(0);
    is("have", war.have(1, 0, 1), false);
    is("sees", war.sees(0, 1, 0), -1);
    is("appears", war.appears(0, 1, 0), -1);
    is("child", war.child(0, 1, 1, 0), -1);
    is("unseen", war.unseen(0, 0, 1, 0, 0), -1);
    is("way", war.way(0, 1, 1, 0, 0, 0), -1);
    is("gain", war.gain(0, 1, 0), NO_GAIN);
    is("power", war.power(3, 0, 0, 0, 0), NO_GAIN);
    is("power", war.power(2, 1, 0, 0, 0), NO_GAIN);
    is("painting", war.painting(2, 0), -1);
    is("painting", war.painting(3, 0), -1);
    is("land", Due.land(war, Due.land("b7.")), -7000);
    is("spies", Due.spies(war, 0, 1, 0, 0), -2);
    war.have(0, 0, 1);
    is("judged", Due.judged(war, "1@0>01"), 0);
    is("told now", war.colour(1, -1, -1), true);
    is("have", war.have(1, 0, 1), true);
    is("sees", war.sees(0, 1, 0), 1);
    is("appears", war.appears(0, 1, 0), 1);
    is("painting", war.painting(3, 0), 1);
    is("land", Due.land(war, Due.land("b7.")), 1);
    is("judged", Due.judged(war, "1@0>01"), 1);
  }

  /** Promise 2: "plain (NONE, NONE)". */
  private void plainByTwoNones() {
    HueWar war = Due.plain(0, 1);
    for (int[] wrong : new int[][] {{-1, 0}, {0, -1}, {-2, -2}, {-1, -2}, {-2, -1}, {MIN, MIN}, {-1, MAX}, {12, 12}}) {
      is("neither plain nor mixed", war.colour(5, wrong[0], wrong[1]), false);
    }
    is("not told", war.count(0), 3);
    is("plain", war.colour(5, HueWar.NONE, HueWar.NONE), true);
    is("told", war.count(0), 3 + 32);
    is("not mixed", war.count(1), 0);
    is("no parts", war.count(15), -1);
  }

  /** Promise 2: "or mixed of two others: true"; promise 31: "100 times the first and the second". */
  private void mixedOfTwoOthers() {
    HueWar war = Due.plain(0, 1, 9, 10);
    is("of the lowest two", war.colour(2, 0, 1), true);
    is("of the highest two", war.colour(11, 10, 9), true);
    is("the other way round", war.colour(3, 1, 0), true);
    is("of a mixed one", war.colour(4, 3, 2), true);
    is("parts", war.count(12), 1);
    is("parts", war.count(21), 1009);
    is("parts", war.count(13), 100);
    is("parts", war.count(14), 302);
    is("mixed", war.count(1), 4 + 8 + 16 + 2048);
  }

  /** Promise 2: "false: .. the two alike". */
  private void theTwoAlike() {
    HueWar war = Due.plain(0, 1);
    is("1 of 0 and 0", new HueWar().colour(1, 0, 0), false);
    is("0 and 0", war.colour(3, 0, 0), false);
    is("1 and 1", war.colour(3, 1, 1), false);
    is("not told", war.count(0), 3);
    is("0 and 1", war.colour(3, 0, 1), true);
  }

  /** Promise 2: "false: .. not lower"; "mixed of two others with lower numbers". */
  private void notLower() {
    HueWar war = Due.plain(1, 4, 6, 7);
    is("the first one is higher", war.colour(5, 6, 1), false);
    is("the second one is higher", war.colour(5, 1, 6), false);
    is("both are higher", war.colour(5, 6, 7), false);
    is("the first one is itself", war.colour(5, 5, 1), false);
    is("the second one is itself", war.colour(5, 1, 5), false);
    is("both are itself", war.colour(5, 5, 5), false);
    is("0 of higher ones", war.colour(0, 1, 4), false);
    is("ash", war.colour(11, 12, 1), false);
    is("32 above", war.colour(11, 33, 4), false);
    is("none was told", war.count(0), 2 + 16 + 64 + 128);
    is("one below", war.colour(5, 4, 1), true);
    is("parts", war.count(15), 401);
  }

  /** Promise 2: "false: .. not told". */
  private void notTold() {
    HueWar war = Due.plain(0);
    is("the second one", war.colour(3, 0, 1), false);
    is("the first one", war.colour(3, 1, 0), false);
    is("both", war.colour(3, 1, 2), false);
    is("then told", war.colour(1, -1, -1), true);
    is("the second one", war.colour(3, 0, 1), true);
  }

  /** Promise 2: "A COLOUR (told once)"; "false: .. it is told". */
  private void toldOnce() {
    HueWar war = Due.plain(0, 1, 3);
    war.have(3, 2, 9);
    is("plain again", war.colour(3, -1, -1), false);
    is("mixed then", war.colour(3, 0, 1), false);
    is("plain as before", war.count(13), -1);
    is("had as before", war.count(114), 9);
    is("mixed", war.colour(4, 0, 1), true);
    is("mixed again", war.colour(4, 0, 1), false);
    is("of others", war.colour(4, 1, 3), false);
    is("plain then", war.colour(4, -1, -1), false);
    is("mixed as before", war.count(14), 1);
    is("what was refused", war.colour(5, 0, 0), false);
    is("can be told", war.colour(5, -1, -1), true);
  }

  private void noEmpire(int e) {
    HueWar war = Due.plain(0, 1);
    war.have(0, 0, 1);
    war.have(1, 0, 2);
    String who = "no EMPIRE " + e;
    is(who, war.sees(e, 0, 0), -1);
    is(who, war.appears(e, 0, 0), -1);
    is(who, war.appears(e, 12, 0), -1);
    is(who, war.child(e, 0, 0, 0), -1);
    is(who, war.child(0, e, 0, 0), -1);
    is(who, war.child(e, e, 0, 0), -1);
    is(who, war.unseen(0, 0, 0, e, 0), -1);
    for (int what = 0; what < 3; what++) {
      is(who, war.way(0, 1, 0, e, 0, what), -1);
      is(who, war.battle(e, 1, 0, what), -1);
      is(who, war.battle(0, e, 0, what), -1);
      is(who, war.ash(e, 0, what), -1);
    }
    is(who, war.worth(e, 0), -1);
    is(who, war.gain(e, 1, 0), NO_GAIN);
    is(who, war.power(1, 0, e, 0, 0), NO_GAIN);
    is(who, war.power(1, 0, e, 0, 1), NO_GAIN);
  }

  /** "EMPIRES 0 to 5". */
  private void empiresTo5() {
    for (int e : new int[] {-1, 6, 7, 32, MIN, MAX}) {
      noEmpire(e);
    }
    HueWar war = Due.plain(0, 1);
    war.have(0, 0, 32);
    war.have(1, 0, 1);
    is("5 sees", war.sees(5, 0, 0), 1);
    is("0 does not", war.sees(0, 0, 0), 0);
    is("appears to 5", war.appears(5, 0, 0), 0);
    is("child of 5", war.child(0, 5, 0, 0), 1);
    is("child of 5", war.child(5, 0, 0, 0), 1);
    is("unseen by 5", war.unseen(0, 0, 0, 5, 0), 0);
    is("a way by 5", war.way(0, 1, 0, 5, 0, 1), 1);
    is("worth to 5", war.worth(5, 0), 0);
    is("gain of 5", war.gain(5, 1, 0), 0);
    is("power to 5", war.power(1, 0, 5, 0, 1), 1);
    is("signals of 5", war.signals(2, 32, 1, 0, 0), 0);
    is("battle of 5", war.battle(5, 0, 0, 0), 1);
    is("battle of 0", war.battle(0, 5, 0, 1), 0);
    is("ash to 5", war.ash(5, 0, 0), 64);
    is("owner 5", war.owner(0, 0, 5), true);
    is("TREATY of 5", Due.treaties(war, "0@0>50"), 1);
    is("the giver", war.treatyIs(0, 2), 5);
  }

  private void noQuarter(int q) {
    HueWar war = Due.plain(0, 1);
    String when = "no QUARTER " + q;
    is(when, war.have(0, q, 1), false);
    is(when, war.sees(0, 0, q), -1);
    is(when, war.appears(0, 0, q), -1);
    is(when, war.appears(0, 12, q), -1);
    is(when, war.child(0, 1, 0, q), -1);
    is(when, war.unseen(0, 0, 0, 0, q), -1);
    for (int what = 0; what < 3; what++) {
      is(when, war.way(0, 1, 0, 0, q, what), -1);
      is(when, war.signals(2, 1, 2, q, what), -1);
      is(when, war.battle(0, 1, q, what), -1);
      is(when, war.ash(0, q, what), -1);
    }
    is(when, war.worth(0, q), -1);
    is(when, war.gain(0, 0, q), NO_GAIN);
    is(when, war.power(1, 0, 0, q, 0), NO_GAIN);
    is(when, war.power(1, 0, 0, q, 1), NO_GAIN);
    for (int two = 0; two < 8; two++) {
      is("nobody HAS it", war.count(100 + two), 0);
    }
  }

  /** "QUARTERS 0 to 3". */
  private void quartersTo3() {
    for (int q : new int[] {-1, 4, 5, 32, MIN, MAX}) {
      noQuarter(q);
    }
    HueWar war = Due.plain(0, 1);
    is("at night", war.have(0, 3, 1), true);
    war.have(1, 3, 2);
    is("sees at night", war.sees(0, 0, 3), 1);
    is("not at dawn", war.sees(0, 0, 0), 0);
    is("appears at night", war.appears(0, 0, 3), 0);
    is("child at night", war.child(0, 1, 0, 3), 1);
    is("unseen at night", war.unseen(0, 0, 0, 0, 3), 0);
    is("unseen at dawn", war.unseen(0, 0, 0, 0, 0), 1);
    is("a way at night", war.way(0, 1, 0, 0, 3, 0), -2);
    is("a way at dawn", war.way(0, 1, 0, 0, 0, 0), 1);
    is("worth at night", war.worth(0, 3), 0);
    is("gain at night", war.gain(0, 0, 3), NO_GAIN);
    is("gain at dawn", war.gain(0, 0, 0), 0);
    is("power at night", war.power(1, 0, 0, 3, 1), 1);
    is("signals at night", war.signals(2, 3, 0, 3, 0), 0);
    is("battle at night", war.battle(0, 1, 3, 0), 1);
    is("battle at dawn", war.battle(0, 1, 0, 0), 0);
    is("ash at night", war.ash(0, 3, 0), 64);
    is("painting at night", war.painting(1, 2), 3);
    is("shown at night", Due.spies(war, 0, 0, 3, 1), 1);
    is("no QUARTER is shown", Due.spies(war, 0, 0, 4, 1), -2);
  }

  /** "Each plain COLOUR in each QUARTER HAS a set of EMPIRES (none at first)". */
  private void noneHaveItAtFirst() {
    HueWar war = Due.plain(0, 11);
    for (int q = 0; q < 4; q++) {
      is("COLOUR 0", war.count(100 + q), 0);
      is("COLOUR 11", war.count(144 + q), 0);
      for (int e = 0; e < 6; e++) {
        is("is not seen", war.sees(e, 0, q), 0);
        is("is not seen", war.sees(e, 11, q), 0);
      }
    }
    is("COLOUR 11 at night", war.have(11, 3, 33), true);
    for (int q = 0; q < 4; q++) {
      is("COLOUR 0", war.count(100 + q), 0);
      is("COLOUR 11", war.count(144 + q), q == 3 ? 33 : 0);
    }
  }

  /** Promise 3: "EMPIRES (6 bits)"; "false: no such ones". */
  private void sixBits() {
    HueWar war = Due.plain(0);
    is("all", war.have(0, 1, 63), true);
    for (int empires : new int[] {64, 65, 127, -1, -64, MIN, MAX, MIN + 1}) {
      is("no EMPIRES " + empires, war.have(0, 1, empires), false);
    }
    is("unchanged", war.count(101), 63);
    is("5 alone", war.have(0, 1, 32), true);
    is("5 alone", war.count(101), 32);
    is("none", war.have(0, 1, 0), true);
    is("none", war.count(101), 0);
  }

  /** Promise 3: the EMPIRES that are told are those that HAVE it then, no others. */
  private void haveTakesThePlace() {
    HueWar war = Due.plain(0, 1);
    war.have(0, 2, 7);
    war.have(0, 2, 24);
    is("3 and 4 alone", war.count(102), 24);
    is("not 0", war.sees(0, 0, 2), 0);
    is("3", war.sees(3, 0, 2), 1);
    is("the QUARTER ahead", war.count(101), 0);
    is("the QUARTER behind", war.count(103), 0);
    is("the COLOUR behind", war.count(106), 0);
  }

  /** Promise 3: "a plain told COLOUR"; "false: no such ones". */
  private void mixedAreNotHad() {
    HueWar war = Due.mixed();
    is("mixed", war.have(2, 0, 1), false);
    is("its place", war.count(108), -1);
    is("not told", war.have(5, 0, 1), false);
    for (int c : new int[] {-1, 12, 32, MIN, MAX}) {
      is("no COLOUR " + c, war.have(c, 0, 1), false);
    }
    for (int c = 0; c < 4; c++) {
      is("nothing was told", war.count(100 + 4 * c), c == 2 ? -1 : 0);
    }
  }

  /** "an EMPIRE sees a plain COLOUR in a QUARTER, if it is one of those" (whatever THE LAW says). */
  private void plainAreSeenByThoseWhoHave() {
    HueWar war = Due.plain(0);
    war.have(0, 1, 4);
    Due.law(war, "s(1=1)");
    is("has it not", war.sees(1, 0, 1), 0);
    is("another QUARTER", war.sees(2, 0, 0), 0);
    Due.law(war, "s(1=2)");
    is("HAS it", war.sees(2, 0, 1), 1);
  }

  /** "without an s in THE LAW: if it sees both parts". */
  private void mixedByBothParts() {
    HueWar war = Due.mixed();
    war.have(0, 0, 1 + 2);
    war.have(1, 0, 1 + 4);
    is("both", war.sees(0, 2, 0), 1);
    is("the first one", war.sees(1, 2, 0), 0);
    is("the second one", war.sees(2, 2, 0), 0);
    is("neither", war.sees(3, 2, 0), 0);
  }

  /** "a mixed one by THE LAW: if a CLAUSE s holds". */
  private void mixedByAnyClauseOfS() {
    HueWar war = Due.mixed();
    war.have(0, 0, 1 + 2);
    war.have(1, 0, 1);
    Due.law(war, "s(1=2)");
    is("none holds, both parts are seen", war.sees(0, 2, 0), 0);
    Due.law(war, "s(1=2);v9(1=1);s(e=1)");
    is("the second s", war.sees(1, 2, 0), 1);
    is("neither s", war.sees(0, 2, 0), 0);
    Due.law(war, "s(a=0&b=0);s(1=2)");
    is("the first s, no part", war.sees(5, 2, 0), 1);
    is("not with parts", war.sees(0, 2, 0), 0);
  }

  /** "(without an s in THE LAW ..)", also when THE LAW before had one. */
  private void lawWithoutS() {
    HueWar war = Due.mixed();
    war.have(0, 0, 1 + 2);
    war.have(1, 0, 1);
    Due.law(war, "v1(1=1);s(1=2);s(1=2)");
    is("by s", war.sees(0, 2, 0), 0);
    Due.law(war, "v1(1=1)");
    is("without an s", war.sees(0, 2, 0), 1);
    is("without an s", war.sees(1, 2, 0), 0);
    Due.law(war, "k(1=1);b1(1=1);v1(1=1)");
    is("without an s", war.sees(0, 2, 0), 1);
    is("without an s", war.sees(1, 2, 0), 0);
  }

  /** "whether the first, the second part .. is seen": a mixed part by THE LAW, too. */
  private void partsThatAreMixed() {
    HueWar war = Due.mixed();
    war.have(3, 0, 1);
    Due.law(war, "s(c=2&e=0);s(c=4&a=1&b=1)");
    is("its first part is seen by s", war.sees(0, 4, 0), 1);
    is("its first part is not", war.sees(1, 4, 0), 0);
    Due.law(war, "s(c=4&a=1&b=1)");
    war.have(0, 0, 1);
    war.have(1, 0, 1);
    is("its first part by no s", war.sees(0, 2, 0), 0);
    is("nor it", war.sees(0, 4, 0), 0);
  }

  /** "APPEARS: a COLOUR that is seen as it is". */
  private void seenAppearAsTheyAre() {
    HueWar war = Due.mixed();
    war.have(0, 0, 1);
    war.have(1, 0, 1);
    war.have(3, 0, 1);
    for (int c = 0; c < 5; c++) {
      is("COLOUR " + c, war.appears(0, c, 0), c);
    }
    Due.law(war, "s(1=1)");
    is("a mixed one of which no part is seen", war.appears(5, 2, 0), 2);
  }

  /** "else a plain one as ash". */
  private void plainAppearAsAsh() {
    HueWar war = Due.plain(0, 11);
    war.have(0, 0, 1);
    is("not seen", war.appears(1, 0, 0), 12);
    is("not seen then", war.appears(0, 0, 1), 12);
    is("seen by nobody", war.appears(0, 11, 0), 12);
  }

  /** "a mixed one as its first part appears, or, if that is ash, as its second part appears". */
  private void mixedAppearAsParts() {
    HueWar war = Due.mixed();
    war.have(0, 0, 1 + 2 + 8);
    war.have(1, 0, 4 + 8);
    war.have(3, 0, 1 + 2 + 4 + 16);
    Due.law(war, "s(1=2)");
    is("its first part", war.appears(0, 2, 0), 0);
    is("its second part", war.appears(2, 2, 0), 1);
    is("the first of both", war.appears(3, 2, 0), 0);
    is("neither", war.appears(4, 2, 0), 12);
    is("its first part's first part", war.appears(0, 4, 0), 0);
    is("its first part's second part", war.appears(2, 4, 0), 1);
    is("its second part", war.appears(4, 4, 0), 3);
    is("no part of any part", war.appears(5, 4, 0), 12);
    Due.law(war, "s(c=2)");
    is("its mixed first part is seen", war.appears(5, 4, 0), 2);
  }

  /** COLOURS "mixed of two others with lower numbers": ten of them, each of the one before it. */
  private void elevenMixed() {
    HueWar war = Due.plain(0, 1);
    for (int c = 2; c < 12; c++) {
      is("mixed " + c, war.colour(c, c - 1, c - 2), true);
    }
    war.have(0, 0, 1 + 2);
    war.have(1, 0, 1 + 4);
    war.have(0, 1, 8);
    for (int c = 2; c < 12; c++) {
      is("seen " + c, war.sees(0, c, 0), 1);
      is("not seen " + c, war.sees(1, c, 0), 0);
      is("as 0", war.appears(1, c, 0), 0);
      is("as 1", war.appears(2, c, 0), 1);
      is("as ash", war.appears(3, c, 0), 12);
    }
    Due.law(war, "s(a=1|b=1)");
    is("by one part of one part", war.sees(3, 11, 1), 1);
    is("by none", war.sees(3, 11, 0), 0);
  }

  /** Promise 14: "a told COLOUR (or ash)". */
  private void ashAppearsAsAsh() {
    HueWar war = new HueWar();
    for (int e = 0; e < 6; e++) {
      for (int q = 0; q < 4; q++) {
        is("ash", war.appears(e, 12, q), 12);
      }
    }
    for (int c : new int[] {-1, 0, 11, 13, 44, MIN, MAX}) {
      is("no COLOUR " + c, war.appears(0, c, 0), -1);
    }
  }

  /** "(without a k: if one of them sees it)". */
  private void childWithoutK() {
    HueWar war = Due.mixed();
    war.have(0, 0, 1 + 2);
    war.have(1, 0, 4);
    is("the first one", war.child(0, 2, 0, 0), 1);
    is("the second one", war.child(2, 0, 0, 0), 1);
    is("both", war.child(0, 1, 0, 0), 1);
    is("neither", war.child(2, 3, 0, 0), 0);
    is("a part each, the mixed one by none", war.child(0, 2, 2, 0), 0);
    Due.law(war, "v1(1=1);k(1=2)");
    is("no k holds", war.child(0, 1, 0, 0), 0);
    Due.law(war, "v1(1=1)");
    is("no k any more", war.child(0, 1, 0, 0), 1);
  }

  /** "A child of two EMPIRES sees a COLOUR in a QUARTER, if a CLAUSE k holds". */
  private void childByAnyClauseOfK() {
    HueWar war = Due.mixed();
    war.have(0, 0, 1);
    Due.law(war, "k(1=2);k(a=0&b=1)");
    is("the second k", war.child(1, 0, 0, 0), 1);
    is("neither k", war.child(0, 1, 0, 0), 0);
    Due.law(war, "k(a=0&b=0);k(1=2)");
    is("the first k, seen by no parent", war.child(1, 2, 0, 0), 1);
    Due.law(war, "k(1/0=0);k(q=3)");
    is("behind a REFUSED k", war.child(0, 0, 3, 3), 1);
    is("none", war.child(0, 0, 3, 2), 0);
  }

  /** Promise 15: "two EMPIRES (also of one and the same)"; "e .. of a child the first parent". */
  private void childOfOneAndTheSame() {
    HueWar war = Due.plain(0);
    war.have(0, 0, 8);
    is("3 and 3", war.child(3, 3, 0, 0), 1);
    is("2 and 2", war.child(2, 2, 0, 0), 0);
    Due.law(war, "k(a+b=2&e=3)");
    is("3 and 3", war.child(3, 3, 0, 0), 1);
    is("3 and 2", war.child(3, 2, 0, 0), 0);
    Due.law(war, "k(e=2)");
    is("2 is the first one", war.child(2, 3, 0, 0), 1);
    is("2 is the second one", war.child(3, 2, 0, 0), 0);
  }

  /** "a, b whether the first, the second .. (in k: parent) is seen", of mixed ones, too. */
  private void childOfMixed() {
    HueWar war = Due.mixed();
    war.have(0, 0, 1 + 2);
    war.have(1, 0, 1 + 4);
    Due.law(war, "k(a=1&b=0&m=1&g=0&c=2)");
    is("0 sees it, 1 does not", war.child(0, 1, 2, 0), 1);
    is("1 does not, 0 does", war.child(1, 0, 2, 0), 0);
    is("a part each", war.child(1, 2, 2, 0), 0);
    Due.law(war, "k(m=0&g=2&c=1)");
    is("two HAVE it", war.child(4, 5, 1, 0), 1);
    is("none HAVE it then", war.child(4, 5, 1, 1), 0);
    is("a mixed one", war.child(4, 5, 2, 0), 0);
  }
}
