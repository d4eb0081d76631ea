/** The boundary cases of SIGNALS, PARTED, BATTLES, SPIES, PAINTINGS, CHECK and count(); one test a sentence. */
public final class SignsEdgesTest {
  private static final int MIN = Integer.MIN_VALUE;
  private static final int MAX = Integer.MAX_VALUE;

  private final Due due = new Due("SignsEdgesTest");

  public static void main(String[] args) {
    new SignsEdgesTest().all();
  }

  private void all() {
    signalsOf2To6();
    friendsSeeThemUnlike();
    noneAsAsh();
    allToldFriends();
    foesSeeThemAlike();
    foesSeeThemAlikeAsAsh();
    eachFoe();
    theFirstSet();
    most();
    friendsAndFoes();
    partedFor2And3();
    bytesOfThoughts();
    theLeastIsMost();
    theLeastRow();
    envy();
    whatOfParted();
    choicesOfABattle();
    neitherHadMore();
    bothAtOnce();
    noTwoAtAll();
    worthThen();
    whoHasItInABattle();
    choicesThatWere();
    whatOfABattle();
    bytesOfSpies();
    noSuchOnesShown();
    stopsIfNotAsh();
    toShowNext();
    toShowTheLowest();
    toShowToFew();
    whatOfSpies();
    paintingsOfTold();
    allOfThemAreSeen();
    theFirstTwo();
    paintingOfNone();
    checkOf0To8();
    checkOfWholeNumbers();
    firstNumberNotSo();
    countOfWhat();
    countOfParts();
    mixedByTheLaw();
    worthByTheLaw();
    due.end();
  }

  private void is(String call, long got, long want) {
    due.is(call, got, want);
  }

  private void is(String call, boolean got, boolean want) {
    due.is(call, got, want);
  }

  /** All COLOURS plain; EMPIRE 0 HAS all of them at night, EMPIRE 1 the first six. */
  private static HueWar twelve() {
    HueWar war = Due.plain(0, 1, 2, 3, 4, 5, 6, 7, 8, 9, 10, 11);
    for (int c = 0; c < 12; c++) {
      war.have(c, 3, c < 6 ? 3 : 1);
    }
    return war;
  }

  /** "n COLOURS (2 to 6)"; promise 21: "NONE: no such ones". */
  private void signalsOf2To6() {
    HueWar war = twelve();
    int[] sets = {66, 220, 495, 792, 924};
    int[] first = {3, 7, 15, 31, 63};
    for (int n = 2; n <= 6; n++) {
      is("sets of " + n + " of 12", war.signals(n, 1, 0, 3, 0), sets[n - 2]);
      is("the first of " + n, war.signals(n, 1, 0, 3, 1), first[n - 2]);
    }
    for (int n : new int[] {1, 0, -1, 7, 12, MIN, MAX}) {
      is("no n " + n, war.signals(n, 1, 0, 3, 0), -1);
      is("no n " + n, war.signals(n, 1, 0, 3, 1), -1);
    }
    is("6 of 6", war.signals(6, 2, 0, 3, 0), 1);
    is("6 of 6", war.signals(6, 2, 0, 3, 1), 63);
    is("5 of 6", war.signals(5, 3, 0, 3, 0), 6);
    is("2 of 6, alike to a foe that sees nothing", war.signals(2, 3, 4, 3, 0), 15);
  }

  /** 0, 1, 3 plain, 2 of 0 and 1, 4 of 2 and 3. To 0 at dawn: 0 1 2 3 4; to 1: 0 . 0 . 0; to 2: . 1 1 . 1; to 3: . . . 3 3. */
  private static HueWar dawn() {
    HueWar war = Due.mixed();
    war.have(0, 0, 1 + 2);
    war.have(1, 0, 1 + 4);
    war.have(3, 0, 1 + 8);
    return war;
  }

  private void signals(HueWar war, int n, int friends, int foes, int sets, int first) {
    is("sets of " + n + " for " + friends + ", " + foes, war.signals(n, friends, foes, 0, 0), sets);
    is("the first of " + n + " for " + friends + ", " + foes, war.signals(n, friends, foes, 0, 1), first);
  }

  /** "that all told friends .. see unlike each other". */
  private void friendsSeeThemUnlike() {
    HueWar war = dawn();
    signals(war, 2, 1, 0, 10, 3);
    signals(war, 5, 1, 0, 1, 31);
    signals(war, 6, 1, 0, 0, -2);
    // 0, 2 and 4 all appear as 0
    signals(war, 2, 2, 0, 0, -2);
    war.have(3, 0, 1 + 2 + 8);
    signals(war, 2, 2, 0, 3, 9);
    signals(war, 3, 2, 0, 0, -2);
  }

  /** "and none as ash". */
  private void noneAsAsh() {
    HueWar war = Due.plain(0, 1, 2);
    war.have(0, 0, 1);
    war.have(2, 0, 1);
    signals(war, 2, 1, 0, 1, 5);
    signals(war, 3, 1, 0, 0, -2);
    war.have(2, 0, 0);
    signals(war, 2, 1, 0, 0, -2);
    is("not at noon", war.signals(2, 1, 0, 1, 0), 0);
  }

  private void allToldFriends() {
    HueWar war = Due.plain(0, 1, 2);
    war.have(0, 0, 63);
    war.have(1, 0, 31);
    war.have(2, 0, 1 + 32);
    signals(war, 2, 1, 0, 3, 3);
    signals(war, 2, 31, 0, 1, 3);
    signals(war, 2, 33, 0, 1, 5);
    signals(war, 2, 32, 0, 1, 5);
    signals(war, 2, 63, 0, 0, -2);
    war.have(1, 0, 63);
    signals(war, 2, 63, 0, 1, 3);
  }

  /** "and that to each of told foes appear all alike". */
  private void foesSeeThemAlike() {
    HueWar war = dawn();
    // to EMPIRE 1: 0, 2, 4 as 0; 1, 3 as ash
    signals(war, 2, 1, 2, 4, 5);
    signals(war, 3, 1, 2, 1, 21);
    signals(war, 4, 1, 2, 0, -2);
    is("most", war.signals(2, 1, 2, 0, 2), 3);
  }

  private void foesSeeThemAlikeAsAsh() {
    HueWar war = dawn();
    signals(war, 5, 1, 16, 1, 31);
    signals(war, 5, 1, 16 + 32, 1, 31);
    // 0, 3 as ash to EMPIRE 2; 1, 2, 4 as 1
    signals(war, 2, 1, 4, 4, 6);
    // 0, 1, 2 as ash to EMPIRE 3; 3, 4 as 3
    signals(war, 2, 1, 8, 4, 3);
    signals(war, 3, 1, 8, 1, 7);
  }

  private void eachFoe() {
    HueWar war = dawn();
    signals(war, 2, 1, 2 + 4, 1, 20);
    signals(war, 2, 1, 2 + 8, 1, 5);
    signals(war, 2, 1, 4 + 8, 1, 6);
    signals(war, 2, 1, 2 + 4 + 8, 0, -2);
    signals(war, 2, 1, 2 + 16 + 32, 4, 5);
  }

  /** "the first (least bits)". */
  private void theFirstSet() {
    HueWar war = Due.plain(0, 1, 2, 9, 10, 11);
    for (int c : new int[] {1, 2, 9, 10, 11}) {
      war.have(c, 0, 1);
    }
    signals(war, 2, 1, 0, 10, 6);
    signals(war, 5, 1, 0, 1, 6 + 512 + 1024 + 2048);
    war.have(1, 0, 1 + 2);
    signals(war, 2, 1, 2, 6, 4 + 512);
    war.have(2, 0, 1 + 4);
    signals(war, 2, 1, 2 + 4, 3, 512 + 1024);
    war.have(9, 0, 1 + 8);
    signals(war, 2, 1, 2 + 4 + 8, 1, 1024 + 2048);
  }

  /** "MOST: the greatest n (2 to 6) by which there is one (0: none)"; "(n is not looked at)". */
  private void most() {
    HueWar war = twelve();
    for (int n : new int[] {0, 1, 2, 6, 7, -1, MIN, MAX}) {
      is("six of twelve", war.signals(n, 1, 0, 3, 2), 6);
      is("none at dawn", war.signals(n, 1, 0, 0, 2), 0);
    }
    for (int c = 5; c > 0; c--) {
      war.have(c, 3, 1);
      is(c + " of them", war.signals(0, 2, 0, 3, 2), c > 1 ? c : 0);
    }
    war.have(0, 3, 1);
    is("none", war.signals(0, 2, 0, 3, 2), 0);
  }

  /** Promise 21: "(friends 1 to 63, foes 0 to 63, none of both)"; "NONE: no such ones". */
  private void friendsAndFoes() {
    HueWar war = twelve();
    is("friends 63", war.signals(2, 63, 0, 3, 0), 0);
    is("friends 1, foes 62", war.signals(2, 1, 62, 3, 0), 15);
    is("friends 62, foes 1", war.signals(2, 62, 1, 3, 0), 0);
    for (int wrong : new int[] {64, 65, 128, -1, -2, MIN, MIN + 1, MAX}) {
      for (int what = 0; what < 3; what++) {
        is("no friends " + wrong, war.signals(2, wrong, 0, 3, what), -1);
        is("no foes " + wrong, war.signals(2, 1, wrong, 3, what), -1);
      }
    }
    for (int what = 0; what < 3; what++) {
      is("no friend", war.signals(2, 0, 0, 3, what), -1);
      is("no friend", war.signals(2, 0, 1, 3, what), -1);
      is("both", war.signals(2, 1, 1, 3, what), -1);
      is("both", war.signals(2, 33, 32, 3, what), -1);
      is("both", war.signals(2, 63, 63, 3, what), -1);
      is("both", war.signals(2, 1, 63, 3, what), -1);
    }
    for (int wrong : new int[] {-1, 3, 4, 10, MIN, MAX}) {
      is("no what " + wrong, war.signals(2, 1, 0, 3, wrong), -1);
    }
  }

  /** Promise 22: "m 2, 3"; "NONE: no such ones, it has not so many (the tape stays)". */
  private void partedFor2And3() {
    HueWar war = new HueWar();
    is("an empty tape", war.parted(2, 0), -1);
    is("an empty tape", war.parted(3, 0), -1);
    Due.feed(war, 1, 2, 3, 4, 5, 6, 7, 8, 9, 10, 11, 12);
    for (int m : new int[] {1, 4, 5, 0, -1, MIN, MAX}) {
      for (int what : new int[] {0, 1, 10, 13}) {
        is("no m " + m, war.parted(m, what), -1);
      }
    }
    is("the tape stays", war.count(3), 20);
    is("of three", war.parted(3, 0), 6);
    is("empty then", war.count(3), 0);
    is("none again", war.parted(2, 0), -1);
  }

  /** Promise 22: "by the first 4 m bytes of the tape"; "-2: a byte above 99". */
  private void bytesOfThoughts() {
    HueWar war = new HueWar();
    is("99", Due.parted(war, 0, 0, 0, 0, 99, 99, 99, 0, 0), 99);
    for (int at = 0; at < 12; at++) {
      for (int wrong : new int[] {100, 128, 255}) {
        int[] bytes = new int[12];
        bytes[at] = wrong;
        is("byte " + at, Due.parted(war, 0, bytes), -2);
        is("empty then", war.count(3), 0);
        Due.feed(war, bytes);
        is("of the first 8, byte " + at, war.parted(2, 0), at < 8 ? -2 : 0);
        is("empty then", war.count(3), 0);
      }
    }
    is("for each what", Due.parted(war, 1, 0, 0, 0, 0, 0, 0, 0, 100), -2);
    is("for each what", Due.parted(war, 10, 0, 0, 0, 0, 0, 0, 0, 100), -2);
    is("for each what", Due.parted(war, 13, 0, 0, 0, 0, 0, 0, 0, 100), -2);
  }

  private void row(int least, int envy, int[] row, int... thoughts) {
    HueWar war = new HueWar();
    is("least", Due.parted(war, 0, thoughts), least);
    is("ENVY", Due.parted(war, 1, thoughts), envy);
    for (int q = 0; q < 4; q++) {
      is("who has " + q, Due.parted(war, 10 + q, thoughts), row[q]);
    }
  }

  /** "so that the least of what they have then is most". */
  private void theLeastIsMost() {
    row(99, 0, new int[] {0, 0, 0, 1}, 33, 33, 33, 99, 33, 33, 33, 99);
    row(198, 0, new int[] {0, 0, 1, 1}, 99, 99, 99, 99, 99, 99, 99, 99);
    row(198, 0, new int[] {1, 1, 0, 0}, 0, 0, 99, 99, 99, 99, 0, 0);
    row(6, 0, new int[] {0, 1, 1, 0}, 1, 2, 3, 5, 2, 3, 4, 5);
    row(99, 0, new int[] {2, 1, 0, 0}, 0, 0, 99, 0, 0, 99, 0, 0, 99, 0, 0, 0);
    row(1, 0, new int[] {0, 1, 0, 2}, 1, 0, 0, 0, 0, 1, 0, 0, 0, 0, 0, 1);
    row(5, 0, new int[] {1, 2, 0, 0}, 0, 0, 3, 3, 5, 1, 1, 1, 2, 5, 2, 2);
  }

  /** "of like ones the least row (by QUARTERS the place of the EMPIRE)". */
  private void theLeastRow() {
    row(0, 0, new int[] {0, 0, 0, 0}, 0, 0, 0, 0, 0, 0, 0, 0);
    row(0, 0, new int[] {0, 0, 0, 0}, 0, 0, 0, 0, 0, 0, 0, 0, 0, 0, 0, 0);
    row(0, 0, new int[] {0, 0, 0, 0}, 9, 9, 9, 9, 0, 0, 0, 0);
    row(0, 1, new int[] {0, 0, 0, 0}, 0, 0, 0, 0, 9, 9, 9, 9);
    row(0, 2, new int[] {0, 0, 0, 0}, 0, 0, 0, 0, 9, 9, 9, 9, 9, 9, 9, 9);
    row(2, 0, new int[] {0, 0, 1, 1}, 1, 1, 1, 1, 1, 1, 1, 1);
    row(1, 2, new int[] {0, 0, 1, 2}, 1, 1, 1, 1, 1, 1, 1, 1, 1, 1, 1, 1);
    row(5, 0, new int[] {0, 0, 0, 1}, 5, 5, 5, 5, 0, 0, 0, 5);
    row(5, 0, new int[] {0, 0, 1, 0}, 5, 0, 0, 0, 0, 0, 5, 0);
  }

  /** "ENVY: how many twos of them of which one thinks more of what the other one has than of its own". */
  private void envy() {
    // alike is no more
    row(10, 0, new int[] {0, 0, 1, 1}, 5, 5, 5, 5, 5, 5, 5, 5);
    // 0 has 50, and thinks 51 of what 1 has
    row(50, 1, new int[] {0, 1, 0, 0}, 50, 51, 0, 0, 0, 60, 0, 0);
    // 1, 2 think more of what 0 has
    row(9, 2, new int[] {0, 0, 1, 2}, 9, 9, 0, 0, 9, 9, 9, 0, 9, 9, 0, 9);
    // all three: 1 of what 0 has, 2 of what 0 has, and of what 1 has
    row(1, 3, new int[] {0, 0, 1, 2}, 1, 1, 0, 0, 9, 0, 1, 0, 9, 9, 9, 1);
  }

  /** Promise 22: "what 0 .., 1 .., 10 + q who has QUARTER q"; "NONE: no such ones .. (the tape stays)". */
  private void whatOfParted() {
    HueWar war = new HueWar();
    Due.feed(war, 1, 1, 1, 1, 1, 1, 1, 1);
    for (int what : new int[] {-1, 2, 3, 9, 14, 15, MIN, MAX, MIN + 10, MIN + 13}) {
      is("no what " + what, war.parted(2, what), -1);
      is("no what " + what, war.parted(3, what), -1);
    }
    is("the tape stays", war.count(3), 20);
    is("10", war.parted(2, 10), 0);
    Due.feed(war, 1, 1, 1, 1, 1, 1, 1, 1);
    is("13", war.parted(2, 13), 1);
  }

  private void battle(HueWar war, int a, int b, int q, int twos, int first, int second) {
    is("twos of " + a + " and " + b, war.battle(a, b, q, 0), twos);
    is("the choice of " + a, war.battle(a, b, q, 1), first);
    is("the choice of " + b, war.battle(a, b, q, 2), second);
  }

  /** "two EMPIRES choose a plain COLOUR each that the other one HAS then and it has not". */
  private void choicesOfABattle() {
    HueWar war = Due.plain(0, 1, 2, 3, 11);
    war.colour(4, 0, 1);
    war.have(0, 2, 1);
    war.have(1, 2, 1);
    war.have(2, 2, 2);
    war.have(3, 2, 3);
    war.have(11, 2, 2 + 4);
    battle(war, 0, 1, 2, 4, 2, 0);
    battle(war, 1, 0, 2, 4, 0, 2);
    battle(war, 0, 1, 1, 0, -2, -2);
    // 1 HAS all that 2 HAS
    battle(war, 1, 2, 2, 0, -2, -2);
    battle(war, 2, 1, 2, 0, -2, -2);
    // 3 HAS nothing
    battle(war, 0, 3, 2, 0, -2, -2);
    battle(war, 0, 2, 2, 3, 11, 0);
    // neither HAS anything
    battle(war, 4, 5, 2, 0, -2, -2);
  }

  /** EMPIRE 0 HAS 0, 1, 2, EMPIRE 1 HAS 3, 4, 5, at dusk; 6 is mixed of 0 and 3. */
  private static HueWar field() {
    HueWar war = Due.plain(0, 1, 2, 3, 4, 5);
    war.colour(6, 0, 3);
    for (int c = 0; c < 6; c++) {
      war.have(c, 2, c < 3 ? 1 : 2);
    }
    return war;
  }

  private static void paint(HueWar war, String row, String owners) {
    Due.land(war, Due.land(row));
    for (int x = 0; x < 8; x++) {
      war.owner(x, 0, owners.charAt(x) - '0');
    }
  }

  /** "twos at which neither had more WORTH then by another choice of its own alone". */
  private void neitherHadMore() {
    HueWar war = field();
    Due.law(war, "v10(c=0);v80(c=1);v80(c=2);v20(c=3);v20(c=4);v3(c=5)");
    battle(war, 0, 1, 2, 9, 3, 0);
    paint(war, "defabc..", "00011166");
    battle(war, 0, 1, 2, 4, 3, 1);
    battle(war, 1, 0, 2, 4, 1, 3);
    Due.law(war, "v90(c=0);v80(c=1);v80(c=2);v20(c=3);v20(c=4);v30(c=5)");
    battle(war, 0, 1, 2, 1, 5, 0);
    battle(war, 1, 0, 2, 1, 0, 5);
    Due.law(war, "v90(c=0);v20(c=1);v90(c=2);v20(c=3);v10(c=4);v20(c=5)");
    battle(war, 0, 1, 2, 4, 3, 0);
    battle(war, 1, 0, 2, 4, 0, 3);
    Due.law(war, "v1(c=0);v2(c=1);v3(c=2);v1(c=3);v2(c=4);v3(c=5)");
    battle(war, 0, 1, 2, 1, 5, 2);
    Due.law(war, "v1(c=0);v3(c=1);v2(c=2);v1(c=3);v3(c=4);v2(c=5)");
    battle(war, 0, 1, 2, 1, 4, 1);
  }

  /** "both take them at once (the other one HAS it no more)". */
  private void bothAtOnce() {
    HueWar war = field();
    paint(war, "degabc..", "00011166");
    // 0 gets 6 by taking 3 only if 1 does not take 0; 1 takes 0 or 1
    Due.law(war, "v50(c=6);v1(c=3);v5(c=4);v9(c=0);v9(c=1);v3(c=2)");
    battle(war, 0, 1, 2, 2, 3, 1);
    battle(war, 1, 0, 2, 2, 0, 4);
    // what is lost is worth nothing any more, and so it does not matter what it was worth
    paint(war, "abcdef..", "00011166");
    Due.law(war, "v9+c(1=1)");
    battle(war, 0, 1, 2, 9, 3, 0);
  }

  /** "how many; the first .. (-2: none)", with choices, but none that stays. */
  private void noTwoAtAll() {
    HueWar war = Due.plain(0, 1, 3, 4);
    war.colour(6, 0, 3);
    war.colour(7, 1, 4);
    war.colour(8, 0, 4);
    war.colour(9, 1, 3);
    war.have(0, 0, 1);
    war.have(1, 0, 1);
    war.have(3, 0, 2);
    war.have(4, 0, 2);
    // 0 wants 3 with 0, or 4 with 1; 1 wants 0 with 4, or 1 with 3
    paint(war, "ghij....", "00116666");
    Due.law(war, "v9(1=1)");
    battle(war, 0, 1, 0, 0, -2, -2);
    battle(war, 1, 0, 0, 0, -2, -2);
    paint(war, "gh..gh..", "00661166");
    battle(war, 0, 1, 0, 2, 3, 1);
    battle(war, 1, 0, 0, 2, 0, 4);
  }

  /** "WORTH then": in that QUARTER, on that DAY. */
  private void worthThen() {
    HueWar war = field();
    for (int c = 0; c < 6; c++) {
      war.have(c, 3, c < 3 ? 1 : 2);
    }
    paint(war, "defabc..", "00011166");
    Due.law(war, "v20(c=q+1|c=q+2&e=0|c=d)");
    battle(war, 0, 1, 2, 2, 3, 0);
    war.days(2);
    battle(war, 0, 1, 2, 2, 3, 2);
    battle(war, 0, 1, 3, 2, 4, 2);
  }

  /** g: of what is taken as many HAVE it then as before. */
  private void whoHasItInABattle() {
    HueWar war = Due.plain(0, 1, 2, 3);
    war.have(0, 0, 2);
    war.have(1, 0, 2 + 4);
    war.have(2, 0, 1);
    war.have(3, 0, 1 + 8);
    paint(war, "abcd....", "00116666");
    Due.law(war, "v20(g=1);v10(g=2);v15(g=3)");
    battle(war, 0, 1, 0, 1, 0, 2);
    battle(war, 1, 0, 0, 1, 2, 0);
    Due.law(war, "v10*g(1=1)");
    battle(war, 0, 1, 0, 1, 1, 3);
    is("nothing is changed", war.count(100), 2);
    is("nothing is changed", war.count(108), 1);
  }

  /** What was a choice once is none any more, however much WORTH it had then. */
  private void choicesThatWere() {
    HueWar war = field();
    paint(war, "defabc..", "00011166");
    Due.law(war, "v5(c=1|c=4);v9(c=2|c=5);v1(1=1)");
    battle(war, 0, 1, 2, 1, 5, 2);
    war.have(5, 2, 3);
    war.have(2, 2, 3);
    battle(war, 0, 1, 2, 1, 4, 1);
    battle(war, 1, 0, 2, 1, 1, 4);
    war.have(4, 2, 0);
    war.have(1, 2, 0);
    battle(war, 0, 1, 2, 1, 3, 0);
    battle(war, 0, 1, 3, 0, -2, -2);
  }

  /** Promise 23: "NONE: no such ones, one twice". */
  private void whatOfABattle() {
    HueWar war = field();
    for (int what : new int[] {-1, 3, 4, 10, MIN, MAX}) {
      is("no what " + what, war.battle(0, 1, 2, what), -1);
    }
    for (int e = 0; e < 6; e++) {
      for (int what = 0; what < 3; what++) {
        is("one twice", war.battle(e, e, 2, what), -1);
      }
    }
    for (int wrong : new int[] {-1, 6, 32, MIN, MAX}) {
      is("no EMPIRE " + wrong, war.battle(wrong, 0, 2, 0), -1);
      is("no EMPIRE " + wrong, war.battle(0, wrong, 2, 0), -1);
      is("no EMPIRE " + wrong, war.battle(wrong, wrong, 2, 0), -1);
      is("no QUARTER " + wrong, war.battle(0, 1, wrong, 0), -1);
    }
    is("as before", war.battle(0, 1, 2, 0), 9);
  }

  /** Promise 24: "the first 3 n bytes of the tape (..; n 1 to 10; empty then)"; "NONE: .. (the tape stays)". */
  private void bytesOfSpies() {
    HueWar war = dawn();
    is("an empty tape", war.spies(1, 0), -1);
    Due.feed(war, new int[40]);
    for (int n : new int[] {0, 11, 12, 13, -1, MIN, MAX}) {
      for (int what = 0; what < 3; what++) {
        is("no n " + n, war.spies(n, what), -1);
      }
    }
    is("the tape stays", war.count(3), 40);
    is("ten", war.spies(10, 0), 60);
    is("empty then", war.count(3), 0);
    Due.feed(war, new int[20]);
    is("not so many", war.spies(7, 0), -1);
    is("the tape stays", war.count(3), 20);
    is("six", war.spies(6, 0), 60);
    is("empty then", war.count(3), 0);
    Due.feed(war, 0, 0, 1, 12, 4, 2);
    is("behind the first one", war.spies(1, 0), 3);
    is("empty then", war.count(3), 0);
  }

  /** Promise 24: "-2: no such ones in it". */
  private void noSuchOnesShown() {
    int[][] wrong = {{5, 0, 0}, {11, 0, 0}, {12, 0, 0}, {255, 0, 0}, {0, 4, 0}, {0, 255, 0}, {0, 0, 2}, {0, 0, 255}};
    for (int[] one : wrong) {
      for (int at = 0; at < 10; at += 3) {
        HueWar war = dawn();
        int[] shown = new int[30];
        System.arraycopy(one, 0, shown, 3 * at, 3);
        for (int what = 0; what < 3; what++) {
          is("no such one at " + at, Due.spies(war, what, shown), -2);
          is("empty then", war.count(3), 0);
        }
      }
    }
  }

  /** "whether he stopped (he does, if it does not appear to him as ash)". */
  private void stopsIfNotAsh() {
    HueWar war = dawn();
    int[] stopping = {3, 5, 7, 9, 15};
    for (int c = 0; c < 5; c++) {
      is("stopped for " + c, Due.spies(war, 0, c, 0, 1), stopping[c]);
      is("did not stop for " + c, Due.spies(war, 0, c, 0, 0), 63 - stopping[c]);
      is("nobody stops at night", Due.spies(war, 0, c, 3, 1), 0);
      is("all go on at night", Due.spies(war, 0, c, 3, 0), 63);
    }
    is("both", Due.spies(war, 0, 0, 0, 1, 1, 0, 1), 1);
    is("one and not the other one", Due.spies(war, 0, 0, 0, 1, 1, 0, 0), 2);
    is("for and not for it", Due.spies(war, 0, 0, 0, 1, 0, 0, 0), 0);
  }

  private void toShow(HueWar war, int c, int q, int... shown) {
    is("COLOUR to show", Due.spies(war, 1, shown), c);
    is("QUARTER to show", Due.spies(war, 2, shown), q);
  }

  /** "by which the greater part of those that fit, stopping or not, is smallest". */
  private void toShowNext() {
    HueWar war = Due.plain(0, 1, 2, 11);
    war.have(0, 0, 1);
    // 1, 5; 2, 4; 3, 3; 4, 2
    toShow(war, 0, 0, 11, 0, 0);
    war.have(1, 1, 15);
    toShow(war, 1, 1, 11, 0, 0);
    war.have(11, 3, 7);
    toShow(war, 11, 3, 11, 0, 0);
    war.have(2, 2, 31);
    toShow(war, 11, 3, 11, 0, 0);
    // 0, 1, 2 fit: 0 alone stops for 0 at dawn, all for 1 and 11
    toShow(war, 0, 0, 11, 3, 1);
    // 3, 4, 5 fit: 3 stops for 1
    toShow(war, 1, 1, 11, 3, 0);
    // 3, 4 fit
    toShow(war, 1, 1, 11, 3, 0, 2, 2, 1);
  }

  /** "of like ones the lowest COLOUR, then QUARTER". */
  private void toShowTheLowest() {
    HueWar war = Due.plain(1, 3, 7);
    toShow(war, 1, 0, 7, 0, 0);
    war.have(7, 0, 7);
    toShow(war, 7, 0, 1, 0, 0);
    war.have(3, 3, 56);
    toShow(war, 3, 3, 1, 0, 0);
    war.have(3, 2, 42);
    toShow(war, 3, 2, 1, 0, 0);
    war.have(1, 3, 21);
    toShow(war, 1, 3, 1, 0, 0);
    // all of one kind, stopping or not
    HueWar one = Due.plain(3, 5);
    toShow(one, 3, 0, 5, 0, 0);
    for (int q = 0; q < 4; q++) {
      one.have(3, q, 63);
    }
    toShow(one, 3, 0, 5, 0, 0);
    one.have(5, 2, 1);
    toShow(one, 5, 2, 5, 0, 0);
  }

  /** One that fits, and none. */
  private void toShowToFew() {
    HueWar war = Due.plain(4, 6);
    war.have(6, 1, 16);
    is("one fits", Due.spies(war, 0, 6, 1, 1), 16);
    toShow(war, 4, 0, 6, 1, 1);
    is("none fits", Due.spies(war, 0, 6, 0, 1), 0);
    toShow(war, 4, 0, 6, 0, 1);
  }

  private void whatOfSpies() {
    HueWar war = dawn();
    Due.feed(war, 0, 0, 1);
    for (int what : new int[] {-1, 3, 4, 10, MIN, MAX}) {
      is("no what " + what, war.spies(1, what), -1);
    }
    is("the tape stays", war.count(3), 20);
    is("EMPIRES", war.spies(1, 0), 3);
  }

  /** Promise 25: "a set of told COLOURS (bits)"; "NONE: no such ones". */
  private void paintingsOfTold() {
    HueWar war = Due.plain(0, 11);
    war.have(0, 0, 1);
    war.have(11, 0, 1);
    is("the highest", war.painting(2048, 0), 1);
    is("both", war.painting(2049, 0), 1);
    for (int set : new int[] {2, 3, 1024, 4095, 4096, 4097, 1 << 30, -1, -2048, MIN, MIN + 1, MAX}) {
      for (int what = 0; what < 3; what++) {
        is("no set " + set, war.painting(set, what), -1);
      }
    }
    for (int what : new int[] {-1, 3, 10, MIN, MAX}) {
      is("no what " + what, war.painting(1, what), -1);
    }
  }

  /** "EMPIRES and QUARTERS by which all of them are seen: how many twos". */
  private void allOfThemAreSeen() {
    HueWar war = Due.mixed();
    for (int q = 0; q < 4; q++) {
      war.have(0, q, 63);
      war.have(1, q, 1 << q);
    }
    is("all twos", war.painting(1, 0), 24);
    is("four", war.painting(2, 0), 4);
    is("both", war.painting(3, 0), 4);
    is("the mixed one", war.painting(4, 0), 4);
    is("with a plain one that nobody sees", war.painting(8 + 1, 0), 0);
    Due.law(war, "s(c=2&q=3)");
    is("by THE LAW", war.painting(4, 0), 6);
    is("by THE LAW", war.painting(6, 0), 1);
    is("by THE LAW", war.painting(16, 0), 0);
  }

  /** "the first (EMPIRE, then QUARTER)". */
  private void theFirstTwo() {
    HueWar war = Due.plain(0);
    int[][] told = {{3, 32, 5, 3}, {2, 32, 5, 2}, {3, 48, 4, 3}, {1, 16, 4, 1}, {0, 8, 3, 0}, {3, 1, 0, 3}, {1, 1, 0, 1}};
    for (int[] one : told) {
      war.have(0, one[0], one[1]);
      is("EMPIRE", war.painting(1, 1), one[2]);
      is("QUARTER", war.painting(1, 2), one[3]);
    }
  }

  /** Promise 25: "-2: none (of 1, 2)". */
  private void paintingOfNone() {
    HueWar war = Due.plain(0, 1);
    war.have(0, 0, 63);
    war.have(1, 1, 63);
    is("none", war.painting(3, 0), 0);
    is("none", war.painting(3, 1), -2);
    is("none", war.painting(3, 2), -2);
  }

  /** Promise 30: "the first n numbers of the tape (0 to 8; four bytes each; empty then)"; "-2: no such n, .. (the tape stays)". */
  private void checkOf0To8() {
    HueWar war = new HueWar();
    is("none of an empty tape", war.check(0), -1);
    is("not so many", war.check(1), -2);
    war.feed(6, 6, 6, 6, 6);
    war.feed(6, 6, 6, 6, 6);
    for (int n : new int[] {-1, 9, 10, MIN, MAX}) {
      is("no n " + n, war.check(n), -2);
    }
    is("the tape stays", war.count(3), 40);
    is("eight", war.check(8), -1);
    is("empty then", war.count(3), 0);
    war.feed(6, 6, 6, 6, 6);
    is("not so many", war.check(6), -2);
    is("not so many", war.check(8), -2);
    is("the tape stays", war.count(3), 20);
    is("none of five", war.check(0), -1);
    is("empty then", war.count(3), 0);
  }

  /** "OWNERS of the first ROW (8 numbers; nobody 6)". */
  private void checkOfWholeNumbers() {
    HueWar war = new HueWar();
    for (int e = 0; e < 6; e++) {
      war.owner(e, 0, e);
    }
    war.owner(0, 1, 3);
    war.feed(0, 1, 2, 3, 4);
    war.feed(5, 6, 6, 3, 0);
    is("right", war.check(8), -1);
    for (int wrong : new int[] {-1, 7, 256, 0x10000, 0x1000000, MIN, MAX, 12}) {
      war.feed(0, wrong, 2, 3, 4);
      is("number " + wrong, war.check(2), 1);
    }
    for (int bit = 8; bit < 32; bit++) {
      war.feed(0, 1, 2, 3 | 1 << bit, 4);
      is("with bit " + bit, war.check(5), 3);
    }
  }

  /** Promise 30: "NONE: right; else the place of the first number that is not so". */
  private void firstNumberNotSo() {
    for (int wrong = 0; wrong < 8; wrong++) {
      HueWar war = new HueWar();
      int[] bytes = new int[32];
      for (int i = 0; i < 8; i++) {
        bytes[4 * i + 3] = i < wrong ? 6 : 5;
      }
      for (int n = 0; n <= 8; n++) {
        Due.feed(war, bytes);
        is("the first " + n, war.check(n), n > wrong ? wrong : -1);
        is("empty then", war.count(3), 0);
      }
    }
  }

  /** Promise 31: "NONE for others". */
  private void countOfWhat() {
    HueWar war = Due.plain(0, 1, 2, 3, 4, 5, 6, 7, 8, 9, 10, 11);
    for (int what = 0; what < 7; what++) {
      is("0 to 6", war.count(what) >= 0, true);
    }
    for (int what = 7; what < 100; what++) {
      is("no count " + what, war.count(what), -1);
    }
    for (int what = 100; what < 148; what++) {
      is("100 to 147", war.count(what), 0);
    }
    for (int what = 148; what < 200; what++) {
      is("no count " + what, war.count(what), -1);
    }
    is("the first field", war.count(200), 12);
    is("the last field", war.count(263), 12);
    for (int what = 264; what < 300; what++) {
      is("no count " + what, war.count(what), -1);
    }
    is("the first OWNER", war.count(300), 6);
    is("the last OWNER", war.count(363), 6);
    for (int what : new int[] {-1, -2, 364, 365, 400, 1000, MIN, MIN + 10, MIN + 100, MIN + 200, MIN + 300, MAX}) {
      is("no count " + what, war.count(what), -1);
    }
  }

  /** Promise 31: "10 + c parts of mixed COLOUR c", "100 + 4 c + q EMPIRES that HAVE plain COLOUR c". */
  private void countOfParts() {
    HueWar war = Due.plain(0, 1, 9, 10);
    war.colour(11, 10, 9);
    war.colour(2, 0, 1);
    for (int c = 0; c < 12; c++) {
      is("parts of " + c, war.count(10 + c), c == 2 ? 1 : c == 11 ? 1009 : -1);
    }
    war.have(0, 0, 1);
    war.have(10, 3, 63);
    for (int q = 0; q < 4; q++) {
      is("COLOUR 0", war.count(100 + q), q == 0 ? 1 : 0);
      is("COLOUR 10", war.count(140 + q), q == 3 ? 63 : 0);
      is("mixed COLOUR 2", war.count(108 + q), -1);
      is("mixed COLOUR 11", war.count(144 + q), -1);
    }
    is("told", war.count(0), 7 + 512 + 1024 + 2048);
    is("mixed", war.count(1), 4 + 2048);
  }

  /** Mixed COLOUR 2, of 0 and 1, is seen by EMPIRE 3 at noon, but not by EMPIRE 1 at night, though they have alike. */
  private static HueWar noon() {
    HueWar war = Due.plain(0, 1);
    war.colour(2, 0, 1);
    war.have(0, 1, 8);
    war.have(0, 3, 2);
    war.owner(0, 0, 3);
    war.owner(1, 0, 1);
    Due.land(war, Due.land("ccaa4."));
    Due.law(war, "s(e=3&q=1&c=2&a=1);v7(c=2);v1(1=1)");
    return war;
  }

  /** "a mixed one by THE LAW: if a CLAUSE s holds", by e and q, in all that asks what is seen. */
  private void mixedByTheLaw() {
    HueWar war = noon();
    is("sees", war.sees(3, 2, 1), 1);
    is("sees", war.sees(1, 2, 3), 0);
    is("appears", war.appears(3, 2, 1), 2);
    is("appears", war.appears(1, 2, 3), 0);
    is("child", war.child(3, 1, 2, 1), 1);
    is("child", war.child(1, 3, 2, 3), 0);
    is("unseen", war.unseen(0, 0, 0, 3, 1), 0);
    is("unseen", war.unseen(0, 0, 0, 1, 3), 1);
    is("way", war.way(0, 3, 2, 3, 1, 0), -2);
    is("way", war.way(0, 3, 2, 1, 3, 0), 3);
    is("signals", war.signals(2, 8, 0, 1, 1), 5);
    is("signals", war.signals(2, 2, 0, 3, 1), -2);
    is("signals", war.signals(2, 8, 2, 1, 1), 5);
    is("painting", war.painting(4, 0), 1);
    is("painting", war.painting(4, 1), 3);
    is("painting", war.painting(4, 2), 1);
    is("ash", war.ash(3, 1, 0), 60);
    is("ash", war.ash(1, 3, 0), 60);
    Due.law(war, "s(e=3&q=1)");
    war.have(0, 1, 0);
    war.have(0, 3, 0);
    is("ash", war.ash(3, 1, 0), 62);
    is("ash", war.ash(1, 3, 0), 64);
    is("spies", Due.spies(war, 0, 2, 1, 1), 8);
    is("spies", Due.spies(war, 0, 2, 3, 1), 0);
  }

  private void worthByTheLaw() {
    HueWar war = noon();
    is("worth", war.worth(3, 1), 7);
    is("worth", war.worth(1, 3), 0);
    is("power", war.power(1, 0, 3, 1, 0), 7);
    is("power", war.power(1, 0, 1, 3, 0), 0);
    is("power of 1", war.power(3, 1, 3, 1, 0), 0);
    war.have(0, 1, 4);
    war.have(0, 3, 4);
    war.have(1, 1, 2 + 8);
    war.have(1, 3, 2 + 8);
    war.colour(3, -1, -1);
    war.have(3, 1, 4);
    war.have(3, 3, 4);
    is("gain", war.gain(3, 0, 1), 7);
    is("gain", war.gain(1, 0, 3), 0);
    // 2 HAS 0 and 3; 0 alone lets 3 see its field at noon
    battle(war, 3, 2, 1, 1, 0, 1);
    battle(war, 2, 3, 1, 1, 1, 0);
    battle(war, 1, 2, 3, 2, 0, 1);
    battle(war, 2, 1, 3, 2, 1, 0);
  }
}
