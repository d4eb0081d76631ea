/** The boundary cases of the tape and of THE LAW: its bytes, CLAUSES, FAULTS, letters and numbers; one test a sentence. */
public final class LawEdgesTest {
  private static final int MIN = Integer.MIN_VALUE;
  private static final int MAX = Integer.MAX_VALUE;

  private final Due due = new Due("LawEdgesTest");

  public static void main(String[] args) {
    new LawEdgesTest().all();
  }

  private void all() {
    twentyBytesHighestFirst();
    tapeOf260();
    noneAtFirst();
    bytesOfALaw();
    firstBytesOfTheTape();
    inPlaceOfTheOneBefore();
    inPlaceOfLongerOnes();
    theOneBeforeStays();
    noBlanks();
    sixteenClauses();
    seventeenthClause();
    semicolonBetweenTwo();
    kindsOfClauses();
    amountsAheadOfC();
    ends();
    pieces();
    factors();
    fiveDigits();
    sixOpen();
    openTillItEnds();
    theFirstFromTheLeft();
    worthFrom0To99();
    tenthsFrom0To10();
    firstClauseThatHolds();
    partsAndPieces();
    comparedAlike();
    fromTheLeftOn();
    with32Bits();
    dividedBy0();
    refusedThroughAll();
    asMuchAsMatters();
    refusedAmountIs0();
    lettersOfS();
    lettersOfK();
    lettersOfV();
    lettersOfB();
    due.end();
  }

  private void is(String call, long got, long want) {
    due.is(call, got, want);
  }

  /** Promise 5: "the highest of each int first". */
  private void twentyBytesHighestFirst() {
    HueWar war = new HueWar();
    // "s(1=1);k(1=1)" and seven bytes more
    is("feed", war.feed(0x7328313D, 0x31293B6B, 0x28313D31, 0x29FFFFFF, -1), 20);
    is("13 bytes", war.law(13), 2);
    is("feed", war.feed(MIN, MAX, 0x000000FF, 0xFF000000, 0), 20);
    is("its first byte is 128", war.parted(2, 0), -2);
    is("feed", war.feed(0x00000063, 0x63000000, -1, -1, -1), 20);
    is("99 behind three 0, 99 ahead of three 0", war.parted(2, 0), 99);
  }

  /** Promise 5: "NONE if that would be more than 260". */
  private void tapeOf260() {
    HueWar war = new HueWar();
    for (int i = 1; i <= 13; i++) {
      is("feed " + i, war.feed(0, 0, 0, 6, 6), 20 * i);
    }
    is("more than 260", war.feed(1, 1, 1, 1, 1), -1);
    is("260 stay", war.count(3), 260);
    is("the first number is not so", war.check(3), 0);
    is("empty then", war.count(3), 0);
    is("feed again", war.feed(6, 6, 6, 6, 6), 20);
    is("from the front", war.check(5), -1);
  }

  /** "THE LAW: a TEXT .. (none at first)". */
  private void noneAtFirst() {
    HueWar war = Due.mixed();
    war.have(0, 0, 1);
    war.have(1, 0, 1);
    war.owner(0, 0, 0);
    Due.land(war, Due.land("a7."));
    is("CLAUSES", war.count(2), 0);
    is("both parts", war.sees(0, 2, 0), 1);
    is("one parent", war.child(5, 0, 0, 0), 1);
    is("no worth", war.worth(0, 0), 0);
    Due.treaties(war, "0@0+01");
    is("none is broken", war.days(99), 0);
  }

  private static String longLaw(int bytes) {
    StringBuilder law = new StringBuilder("s(1=1");
    while (law.length() + 5 <= bytes) {
      law.append("|1=1");
    }
    while (law.length() + 1 < bytes) {
      law.insert(2, '0');
    }
    return law.append(')').toString();
  }

  /** Promise 6: "the first n bytes of the tape (1 to 240 ..)"; "NONE: no such n, it has not so many (the tape stays)". */
  private void bytesOfALaw() {
    HueWar war = new HueWar();
    is("240 bytes", longLaw(240).length(), 240);
    is("240", Due.law(war, longLaw(240)), 1);
    Due.feed(war, longLaw(241));
    is("241", war.law(241), -1);
    is("the tape stays", war.count(3), 260);
    for (int n : new int[] {0, -1, 242, 260, 261, MIN, MAX}) {
      is("no n " + n, war.law(n), -1);
    }
    is("the tape stays", war.count(3), 260);
    is("THE LAW stays", war.count(2), 1);
    is("240 of 241", war.law(240), -1240);
    is("empty then", war.count(3), 0);
    is("not so many", war.law(1), -1);
    Due.feed(war, "s(1=1);s(1=1);s(1=1)");
    is("not so many", war.law(21), -1);
    is("the tape stays", war.count(3), 20);
    is("all of them", war.law(20), 3);
    Due.feed(war, "s");
    is("1 byte", war.law(1), -1001);
    is("empty then", war.count(3), 0);
  }

  /** Promise 6: "by the first n bytes of the tape .. empty then". */
  private void firstBytesOfTheTape() {
    HueWar war = new HueWar();
    Due.feed(war, "s(1=1);s(1=1);s(1=1)");
    Due.feed(war, ";k(1=1);");
    is("the first 13", war.law(13), 2);
    is("empty then", war.count(3), 0);
    Due.feed(war, "s(1=1)");
    Due.feed(war, "s(1=1)");
    is("what is behind n is not looked at", war.law(6), 1);
    is("empty then", war.count(3), 0);
  }

  /** Promise 6: "in place of the one before: how many CLAUSES". */
  private void inPlaceOfTheOneBefore() {
    HueWar war = Due.plain(0);
    war.have(0, 0, 1);
    war.owner(0, 0, 0);
    Due.land(war, Due.land("a7."));
    is("three", Due.law(war, "v1(1=2);v2(1=1);v3(1=1)"), 3);
    is("worth", war.worth(0, 0), 2);
    is("one", Due.law(war, "v5(1=2)"), 1);
    is("CLAUSES", war.count(2), 1);
    is("those of before are gone", war.worth(0, 0), 0);
  }

  private void inPlaceOfLongerOnes() {
    HueWar war = landOfOne();
    for (int i = 0; i < 9; i++) {
      is("239 bytes", Due.law(war, "v" + i + "(" + "1=2|".repeat(58) + "1=1)"), 1);
      is("worth", war.worth(0, 0), i);
    }
    is("two", Due.law(war, "v1(1=2);v3+1(1=1)"), 2);
    is("worth", war.worth(0, 0), 4);
    is("one", Due.law(war, "v5(1=2&9=9&1=1)"), 1);
    is("worth", war.worth(0, 0), 0);
    is("a FAULT at its end", Due.law(war, "v7(1=1);v8(1=1);v9(1=1"), -1022);
    is("worth", war.worth(0, 0), 0);
    is("two", Due.law(war, "v5(1=2&9=9&1=1);v6(1=1)"), 2);
    is("worth", war.worth(0, 0), 6);
  }

  /** Promise 6: "a FAULT: .. (the one before stays)". */
  private void theOneBeforeStays() {
    HueWar war = Due.plain(0);
    war.have(0, 0, 1);
    war.owner(0, 0, 0);
    Due.land(war, Due.land("a7."));
    Due.law(war, "v1(1=2);v2(1=1)");
    for (String text : new String[] {"v7(1=1", "v7(1=1);v8(1=1);", "v7(1=1);x", "v123456(1=1)", "v7(((((((1=1)))))))", "x"}) {
      is("a FAULT in " + text, Due.law(war, text) <= -1000 ? 1 : 0, 1);
      is("CLAUSES", war.count(2), 2);
      is("worth", war.worth(0, 0), 2);
      is("empty then", war.count(3), 0);
    }
  }

  private void fault(String text, int answer) {
    HueWar war = new HueWar();
    is("law " + text, Due.law(war, text), answer);
    is("CLAUSES of " + text, war.count(2), Math.max(answer, 0));
    is("empty behind " + text, war.count(3), 0);
  }

  /** "no blanks". */
  private void noBlanks() {
    fault(" s(1=1)", -1000);
    fault("s (1=1)", -1001);
    fault("s( 1=1)", -1002);
    fault("s(1 =1)", -1003);
    fault("s(1= 1)", -1004);
    fault("s(1=1 )", -1005);
    fault("s(1=1) ", -1006);
    fault("s(1=1); s(1=1)", -1007);
    fault("v1 (1=1)", -1002);
    fault("s(1=1)\n", -1006);
    fault("s(1=1)\0", -1006);
    fault("\0", -1000);
  }

  /** "CLAUSES (16 at most)". */
  private void sixteenClauses() {
    fault("s(1=1)", 1);
    fault("s(1=1)" + ";s(1=1)".repeat(14), 15);
    fault("s(1=1)" + ";s(1=1)".repeat(15), 16);
    fault("v1(1=1)" + ";b1(1=1)".repeat(15), 16);
  }

  /** "4 a 17th CLAUSE, at its letter (if that can stand there)". */
  private void seventeenthClause() {
    String sixteen = "s(1=1)" + ";s(1=1)".repeat(15);
    is("112 bytes and one", sixteen.length() + 1, 112);
    for (String letter : new String[] {"s", "k", "v", "b"}) {
      fault(sixteen + ";" + letter, -4112);
      fault(sixteen + ";" + letter + "1(1=1)", -4112);
      fault(sixteen + ";" + letter + "(123456", -4112);
    }
    fault(sixteen + ";", -1112);
    fault(sixteen + ";;", -1112);
    fault(sixteen + ";a(1=1)", -1112);
    fault(sixteen + ";(", -1112);
    fault(sixteen + "s", -1111);
  }

  /** "with a ; (59) between two". */
  private void semicolonBetweenTwo() {
    fault("s(1=1)" + (char) 59 + "s(1=1)", 2);
    fault("s(1=1)s(1=1)", -1006);
    fault("s(1=1),s(1=1)", -1006);
    fault("s(1=1);", -1007);
    fault("s(1=1);;s(1=1)", -1007);
    fault(";s(1=1)", -1000);
  }

  /** "a letter, E, and (C), of s and k only (C)". */
  private void kindsOfClauses() {
    fault("s(1=1);k(1=1);v1(1=1);b1(1=1)", 4);
    fault("s1(1=1)", -1001);
    fault("k1(1=1)", -1001);
    fault("sa(1=1)", -1001);
    fault("v(1=1)", -1001);
    fault("b(1=1)", -1001);
    for (String letter : new String[] {"a", "c", "S", "K", "V", "B", "1", "(", "e", "r", "t", "u", "w", "j", "l"}) {
      fault(letter + "(1=1)", -1000);
    }
    fault("" + (char) ('s' + 128) + "(1=1)", -1000);
  }

  private void amountsAheadOfC() {
    fault("v12(1=1)", 1);
    fault("va+b-c*d/e%n(1=1)", 1);
    fault("v[1](1=1)", 1);
    fault("v1", -1002);
    fault("v1;", -1002);
    fault("v1=1(1=1)", -1002);
    fault("v1+(1=1)", -1003);
    fault("v1*(1=1)", -1003);
    fault("v!1(1=1)", -1001);
    fault("v-1(1=1)", -1001);
    fault("v1](1=1)", -1002);
    fault("v1[1](1=1)", -1002);
    fault("vf(1=1)", -1001);
  }

  /** "1 what can't stand there (the end, too)", at each place of a TEXT. */
  private void ends() {
    String text = "v[12+a]*3%o(!(1<e&2>1)|c=4);k(1=1)";
    fault(text, 2);
    for (int n = 1; n < text.length(); n++) {
      boolean isWhole = n == text.indexOf(';');
      fault(text.substring(0, n), isWhole ? 1 : -1000 - n);
    }
    for (int n = 0; n < text.length(); n++) {
      fault(text.substring(0, n) + "$" + text.substring(n), -1000 - n);
    }
    fault(text + "$", -1000 - text.length());
  }

  /** "a PIECE: !PIECE, (C), or E, one of < > =, and E". */
  private void pieces() {
    fault("s(1<1)", 1);
    fault("s(1>1)", 1);
    fault("s(1=1)", 1);
    fault("s(!1=1)", 1);
    fault("s(!(1=1))", 1);
    fault("s((1=1))", 1);
    fault("s()", -1002);
    fault("s(())", -1003);
    fault("s(!)", -1003);
    fault("s(1)", -1003);
    fault("s(=1)", -1002);
    fault("s(1=)", -1004);
    fault("s(1<=1)", -1004);
    fault("s(1>=1)", -1004);
    fault("s(1==1)", -1004);
    fault("s(1=1=1)", -1005);
    fault("s((1=1)=1)", -1007);
    fault("s(1=(1=1))", -1004);
    fault("s(1=!1)", -1004);
    fault("s(1=1!1=1)", -1005);
    fault("s(1=1(1=1))", -1005);
    fault("s(&1=1)", -1002);
    fault("s(1=1&)", -1006);
    fault("s(1=1&&1=1)", -1006);
    fault("s(1=1||1=1)", -1006);
    fault("s(1=1|)", -1006);
    fault("s(1=1]", -1005);
    fault("s[1=1]", -1001);
    fault("s(1=1))", -1006);
  }

  /** "a FACTOR: [E], a number .., or a letter: e .. c .. q .. d .. m .. a, b .. n .. g .. o". */
  private void factors() {
    for (char sign = 0; sign < 256; sign++) {
      boolean isFactor = "ecqdmabngo".indexOf(sign) >= 0 || sign >= '0' && sign <= '9';
      int place = sign == '[' ? 3 : sign == '!' || sign == '(' ? 3 : 2;
      fault("s(" + sign + "=1)", isFactor ? 1 : -1000 - place);
    }
    fault("s([1]=1)", 1);
    fault("s([[a]+1]=1)", 1);
    fault("s([]=1)", -1003);
    fault("s([1=1)", -1004);
    fault("s([1=1])", -1004);
    fault("s([1)=1)", -1004);
    fault("s([!1]=1)", -1003);
    fault("s([(1)]=1)", -1003);
    fault("s([1][1]=1)", -1005);
    fault("s(1a=1)", -1003);
    fault("s(a1=1)", -1003);
    fault("s(ab=1)", -1003);
    fault("s(1++1=1)", -1004);
    fault("s(1*/1=1)", -1004);
    fault("s(-1=1)", -1002);
    fault("s(1+-1=1)", -1004);
  }

  /** "a number of one to five digits"; "2 a sixth digit, at it". */
  private void fiveDigits() {
    fault("s(0=9)", 1);
    fault("s(99999=00000)", 1);
    fault("s(999999=0)", -2007);
    fault("s(000001=0)", -2007);
    fault("s(1=123456)", -2009);
    fault("s(1=1234567)", -2009);
    fault("v12345(1=1)", 1);
    fault("v123456(1=1)", -2006);
    fault("v123456", -2006);
    fault("v12345x", -1006);
    fault("v1+[100000](1=1)", -2009);
    fault("v12345+12345(1=1)", 1);
  }

  /** "5 a seventh of ( [ ! that are open in one another, at it (the ( of the CLAUSE counts ..)". */
  private void sixOpen() {
    fault("s((((((1=1))))))", 1);
    fault("s(((((((1=1)))))))", -5007);
    fault("s(((((((", -5007);
    fault("s((((((", -1007);
    fault("s(!!!!!1=1)", 1);
    fault("s(!!!!!!1=1)", -5007);
    fault("s(!!!!!(1=1))", -5007);
    fault("s(!!!!![1]=1)", -5007);
    fault("s([[[[[1]]]]]=1)", 1);
    fault("s([[[[[[1]]]]]]=1)", -5007);
    fault("s(1=[[[[[1]]]]])", 1);
    fault("s(1=[[[[[[1]]]]]])", -5009);
    fault("s(!(!([1]=1)))", 1);
    fault("s(!(!([[1]]=1)))", -5007);
    fault("s(!(!(!1=1)))", 1);
    fault("s(!(!(!!1=1)))", -5007);
    fault("s(!(!((1=1))))", 1);
    fault("s(!(!(((1=1)))))", -5007);
    // the E of a CLAUSE stands ahead of its (
    fault("v[[[[[[1]]]]]](1=1)", 1);
    fault("v[[[[[[[1]]]]]]](1=1)", -5007);
    fault("b[[[[[[1]]]]]]((((((1=1))))))", 1);
    fault("b[[[[[[1]]]]]](((((((1=1)))))))", -5020);
  }

  /** "a ! is open till its PIECE ends"; ( and [ till they are closed. */
  private void openTillItEnds() {
    fault("s(!1=1" + "&!1=1".repeat(6) + ")", 1);
    fault("s(!1=1" + "|!1=1".repeat(6) + ")", 1);
    fault("s((1=1)" + "&(1=1)".repeat(6) + ")", 1);
    fault("s([1]" + "+[1]".repeat(6) + "=1)", 1);
    fault("s([1]=[1]&[1]=[1]&[1]=[1]&[1]=[1])", 1);
    fault("s(!!!!!1=1&!!!!!1=1)", 1);
    fault("s(!!!!!1=1&!!!!!!1=1)", -5016);
    fault("s((!!!!1=1)&!!!!!1=1)", 1);
    fault("s(((((1=1))))&(((((1=1))))))", 1);
    fault("s(!1=[[[[1]]]])", 1);
    fault("s(!1=[[[[[1]]]]])", -5009);
    fault("s(1=1&[[[[[1]]]]]=1)", 1);
  }

  /** "FAULTS, the first from the left". */
  private void theFirstFromTheLeft() {
    fault("x(123456=1", -1000);
    fault("s(123456=x)", -2007);
    fault("s(x=123456)", -1002);
    fault("s(1=1;s(123456=1)", -1005);
    fault("s(((((((123456=1)", -5007);
    fault("s(123456+((((((((", -2007);
    fault("s(1=1)" + ";s(1=1)".repeat(15) + ";s(123456=1)", -4112);
    fault("s(123456=1)" + ";s(1=1)".repeat(16), -2007);
    fault("s(1=1)" + ";s(1=1)".repeat(14) + ";s(1=1;s", -1110);
  }

  private static HueWar landOfOne() {
    HueWar war = Due.plain(0);
    war.have(0, 0, 1);
    war.owner(0, 0, 0);
    Due.land(war, Due.land("a7."));
    return war;
  }

  private void worth(String law, int want) {
    HueWar war = landOfOne();
    is("read " + law, Due.law(war, law) > 0 ? 1 : 0, 1);
    is("worth by " + law, war.worth(0, 0), want);
  }

  /** "v what a field in a COLOUR is worth (0 to 99)"; "(beyond its bounds the bound ..)". */
  private void worthFrom0To99() {
    worth("v0(1=1)", 0);
    worth("v1(1=1)", 1);
    worth("v98(1=1)", 98);
    worth("v99(1=1)", 99);
    worth("v100(1=1)", 99);
    worth("v99999*20000(1=1)", 99);
    worth("v0-1(1=1)", 0);
    worth("v0-99999(1=1)", 0);
    worth("v99999*99999*0+7(1=1)", 7);
  }

  /** DRAWS of three TREATIES with a seed whose first DRAWS are 9, 2, 3: how many are broken on the first DAY. */
  private void broken(String law, int want) {
    HueWar war = Due.plain(0);
    war.have(0, 0, 1);
    Due.treaties(war, "0@0+01,0@0+02,0@0+03");
    war.seed(0);
    is("read " + law, Due.law(war, law) > 0 ? 1 : 0, 1);
    is("broken by " + law, war.days(1), want);
  }

  /** "b tenths that a TREATY is broken (0 to 10)"; "(beyond its bounds the bound; none: 0)". */
  private void tenthsFrom0To10() {
    // X: 13849, then (25173 * 13849 + 13849) modulo 65536 = 48742, then 31223
    broken("b0(1=1)", 0);
    broken("b2(1=1)", 0);
    broken("b3(1=1)", 1);
    broken("b4(1=1)", 2);
    broken("b9(1=1)", 2);
    broken("b10(1=1)", 3);
    broken("b11(1=1)", 3);
    broken("b99999(1=1)", 3);
    broken("b0-1(1=1)", 0);
    broken("b0-99999*20000(1=1)", 0);
    broken("b10(1=2)", 0);
    broken("v10(1=1)", 0);
  }

  /** "of the first CLAUSE of v, b whose C holds the E (.. none: 0)". */
  private void firstClauseThatHolds() {
    worth("v1(1=2);v2(1=1);v3(1=1)", 2);
    worth("v0-5(1=1);v9(1=1)", 0);
    worth("v1(1=2);v2(1=2)", 0);
    worth("b5(1=1);s(1=1);k(1=1)", 0);
    worth("b5(1=1);v4(1=1)", 4);
    worth("v1(1/0=1);v4(1=1)", 4);
    worth("v1(1=2);v1(1=2);v1(1=2);v1(1=2);v1(1=2);v1(1=2);v1(1=2);v1(1=2);v1(1=2);v1(1=2);v1(1=2);v1(1=2);v1(1=2);v1(1=2);"
        + "v1(1=2);v16(1=1)", 16);
    broken("v10(1=1);b0(1=1);b10(1=1)", 0);
    broken("b0(1=2);b10(1=1);b0(1=1)", 3);
    broken("b10(1/0=0)", 0);
  }

  private void holds(String c, boolean want) {
    HueWar war = landOfOne();
    is("read v7(" + c + ")", Due.law(war, "v7(" + c + ")"), 1);
    is(c, war.worth(0, 0), want ? 7 : 0);
  }

  /** "PARTS with a | between two, one of which must hold; .. PIECES with an & between two, all of which must". */
  private void partsAndPieces() {
    String[] truths = {"1=2", "1=1"};
    for (int bits = 0; bits < 16; bits++) {
      boolean w = (bits & 1) != 0;
      boolean x = (bits & 2) != 0;
      boolean y = (bits & 4) != 0;
      boolean z = (bits & 8) != 0;
      String a = truths[bits & 1];
      String b = truths[bits >> 1 & 1];
      String c = truths[bits >> 2 & 1];
      String d = truths[bits >> 3];
      holds(a + "|" + b + "|" + c + "|" + d, w || x || y || z);
      holds(a + "&" + b + "&" + c + "&" + d, w && x && y && z);
      holds(a + "|" + b + "&" + c + "|" + d, w || x && y || z);
      holds(a + "&" + b + "|" + c + "&" + d, w && x || y && z);
      holds("(" + a + "|" + b + ")&(" + c + "|" + d + ")", (w || x) && (y || z));
      holds("!" + a + "&" + b + "|!(" + c + "&" + d + ")", !w && x || !(y && z));
      holds("!!" + a + "&!(!" + b + "|" + c + ")|!" + d, w && !(!x || y) || !z);
    }
  }

  /** "one of < > =", also with two that are alike, and with numbers below 0. */
  private void comparedAlike() {
    holds("1<2", true);
    holds("2<2", false);
    holds("3<2", false);
    holds("3>2", true);
    holds("2>2", false);
    holds("1>2", false);
    holds("2=2", true);
    holds("1=2", false);
    holds("!1<2", false);
    holds("!2>1", false);
    holds("!2=2", false);
    holds("!!1<2", true);
    holds("!1>2", true);
    holds("0-1<0", true);
    holds("0-1>0-2", true);
    holds("0-1=1-2", true);
    holds("00002=2", true);
    holds("65536*32768<65536*32768-1", true);
  }

  /** "TERMS with + or - between two; .. FACTORS with one of * / % between two; from the left on". */
  private void fromTheLeftOn() {
    worth("v1+2*3(1=1)", 7);
    worth("v[1+2]*3(1=1)", 9);
    worth("v20-3-2(1=1)", 15);
    worth("v20-[3-2](1=1)", 19);
    worth("v40/2/5(1=1)", 4);
    worth("v40/2*5(1=1)", 99);
    worth("v7/2*2(1=1)", 6);
    worth("v2*7/2(1=1)", 7);
    worth("v17%10%4(1=1)", 3);
    worth("v17%[10%4](1=1)", 1);
    worth("v3*17%10(1=1)", 1);
    worth("v1+7/1-7%1(1=1)", 8);
    worth("v0/5+0%5+3(1=1)", 3);
    worth("v5%7(1=1)", 5);
    worth("v1-2+3(1=1)", 2);
  }

  /** "All is reckoned with 32 bits, as the machine does". */
  private void with32Bits() {
    holds("65536*65536=0", true);
    holds("65536*32768<0", true);
    holds("65536*32768-1>0", true);
    holds("65536*32767+65535>0", true);
    holds("65536*32767+65535+1<0", true);
    holds("65535*65537=0-1", true);
    holds("46341*46341<0", true);
    holds("46340*46340>0", true);
    // the lowest number divided by -1
    holds("65536*32768/[0-1]=65536*32768", true);
    holds("65536*32768%[0-1]=0", true);
    holds("0-65536*32768=65536*32768", true);
    // towards 0, and the rest with the sign of what is divided
    holds("[0-7]/2=0-3", true);
    holds("[0-7]%2=0-1", true);
    holds("7/[0-2]=0-3", true);
    holds("7%[0-2]=1", true);
    holds("99999*99999/10000=14098*10+6", true);
  }

  /** "what is divided by 0 is REFUSED: then the C as a whole does not hold". */
  private void dividedBy0() {
    for (String zero : new String[] {"0", "[1-1]", "c", "[e*9]", "00000", "[65536*65536]", "[3%3]"}) {
      holds("1/" + zero + "=0", false);
      holds("1%" + zero + "=0", false);
      holds("1/" + zero + "<1", false);
      holds("!1/" + zero + "=0", false);
      holds("0/" + zero + "=0|1=1", false);
      holds("1=1&1=1/" + zero, false);
    }
    holds("0/1=0", true);
    holds("0%1=0", true);
  }

  /** ".. the C as a whole does not hold (through any !, ( ) and |)". */
  private void refusedThroughAll() {
    holds("!(1/0=0)", false);
    holds("!!1/0=0", false);
    holds("!(!(1/0=0))", false);
    holds("(1/0=0)|1=1", false);
    holds("(1=2|(1=2|1/0=0))|1=1", false);
    holds("(1/0=0|1=1)|1=1", false);
    holds("!(1=1&(1/0=0))", false);
    holds("!(1=2|!(1=1&!1/0=0))|1=1", false);
    holds("1=2|1/0=0|1=1", false);
    holds("1=1&1/0=0|1=1", false);
    holds("[1+[2/[3-3]]]*0=0|1=1", false);
    holds("0*[1/0]=0", false);
    holds("1=1/0|1=1", false);
  }

  /** "Of a C as much is asked, from the left, as matters". */
  private void asMuchAsMatters() {
    holds("1=1|1/0=0", true);
    holds("1=2&1/0=0|1=1", true);
    holds("1=2&1/0=0", false);
    holds("!(1=2&1/0=0)", true);
    holds("!(1=1|1/0=0)|1=1", true);
    holds("(1=1|1/0=0)&1=1", true);
    holds("(1=2&1/0=0)|1=1", true);
    holds("1=2&(1/0=0|1=1)|1=1", true);
    holds("1=1|(1/0=0&1/0=0)|1/0=0", true);
    holds("1=2&1/0=0&1/0=0|1=1", true);
    holds("1=1&1=2&1/0=0|1=1", true);
    holds("!1=1&1/0=0|1=1", true);
    holds("1=1&1=1|1/0=0", true);
    holds("1=2|1=1|1/0=0", true);
    holds("1=1&1=2|1/0=0|1=1", false);
  }

  /** "what is divided by 0 is REFUSED: .. an E is 0". */
  private void refusedAmountIs0() {
    worth("v1/0(1=1)", 0);
    worth("v1%0(1=1)", 0);
    worth("v9+1/0(1=1)", 0);
    worth("v1/0+9(1=1)", 0);
    worth("v1/c(1=1);v9(1=1)", 0);
    worth("v1/[1-e](1=1);v9(1=1)", 1);
    broken("b10+1/0(1=1)", 0);
    broken("b1/0(1=1);b10(1=1)", 0);
  }

  /** s: e, c, q, d, m, a, b; "(where they are not told they are 0)"; g "of mixed ones 0". */
  private void lettersOfS() {
    HueWar war = Due.mixed();
    war.have(0, 2, 63);
    war.days(7);
    war.owner(0, 0, 5);
    Due.land(war, Due.land("c7."));
    Due.law(war, "s(e=5&c=2&q=2&d=7&m=1&a=1&b=0&n=0&g=0&o=0)");
    is("each letter of s", war.sees(5, 2, 2), 1);
    is("another EMPIRE", war.sees(4, 2, 2), 0);
    is("another COLOUR", war.sees(5, 4, 2), 0);
    is("another QUARTER", war.sees(5, 2, 3), 0);
    war.days(1);
    is("another DAY", war.sees(5, 2, 2), 0);
    Due.law(war, "s(a=0&b=1)");
    is("the first part is seen", war.sees(5, 2, 2), 0);
    war.have(0, 2, 0);
    war.have(1, 2, 32);
    is("the second part is seen", war.sees(5, 2, 2), 1);
  }

  /** k: e, c, q, d, m, a, b, g. */
  private void lettersOfK() {
    HueWar war = Due.mixed();
    war.have(3, 3, 2 + 4 + 8);
    war.days(9);
    war.owner(0, 0, 1);
    Due.land(war, Due.land("d7."));
    Due.law(war, "k(e=1&c=3&q=3&d=9&m=0&a=1&b=0&n=0&g=3&o=0)");
    is("each letter of k", war.child(1, 5, 3, 3), 1);
    is("another one first", war.child(2, 5, 3, 3), 0);
    is("the second one sees it", war.child(1, 2, 3, 3), 0);
    is("another COLOUR", war.child(1, 5, 1, 3), 0);
    is("another QUARTER", war.child(1, 5, 3, 2), 0);
    war.have(3, 3, 2);
    is("another g", war.child(1, 5, 3, 3), 0);
    Due.law(war, "k(m=1&c=4&g=0&d=9)");
    is("a mixed one", war.child(0, 0, 4, 0), 1);
  }

  private void letterOfV(String letter, int plain, int mixed) {
    HueWar war = Due.mixed();
    war.have(0, 1, 8 + 16 + 32);
    war.have(1, 1, 8);
    war.days(6);
    war.owner(0, 0, 3);
    war.owner(1, 0, 3);
    war.owner(2, 0, 4);
    Due.land(war, Due.land("3a2c3."));
    Due.law(war, "v" + letter + "(c=0)");
    is("v of COLOUR 0: " + letter, war.worth(3, 1), 2 * plain);
    war.owner(3, 0, 3);
    Due.law(war, "v" + letter + "(c=2)");
    is("v of COLOUR 2: " + letter, war.worth(3, 1), mixed);
  }

  /** v: e, c, q, d, m, n, g; "a, b .. in s, k alone"; "n how many fields of that COLOUR it owns". */
  private void lettersOfV() {
    letterOfV("e", 3, 3);
    letterOfV("c", 0, 2);
    letterOfV("q", 1, 1);
    letterOfV("d", 6, 6);
    letterOfV("m", 0, 1);
    letterOfV("a", 0, 0);
    letterOfV("b", 0, 0);
    letterOfV("n", 2, 1);
    letterOfV("g", 3, 0);
    letterOfV("o", 0, 0);
  }

  private void letterOfB(String letter, int want) {
    for (int least = want; least <= want + 1; least++) {
      HueWar war = Due.plain(0, 7);
      war.have(7, 2, 16 + 1 + 2);
      war.have(7, 3, 16);
      war.owner(0, 0, 4);
      Due.land(war, Due.land("h7."));
      war.days(3);
      Due.treaties(war, "7@23+45");
      war.days(5);
      Due.law(war, "b10(" + letter + "=" + least + ")");
      is("b of " + letter + " = " + least, war.days(1), least == want ? 1 : 0);
    }
  }

  /** b: e "the giver", c, q "the lowest one of the TREATY", d, m, g, o "how old a TREATY is". */
  private void lettersOfB() {
    letterOfB("e", 4);
    letterOfB("c", 7);
    letterOfB("q", 2);
    letterOfB("d", 8);
    letterOfB("m", 0);
    letterOfB("a", 0);
    letterOfB("b", 0);
    letterOfB("n", 0);
    letterOfB("g", 4);
    letterOfB("o", 5);
  }
}
