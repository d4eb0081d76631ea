/** For each promise of the document ordinary calls, the edges that it names, and wrong calls. */
public final class PromisesTest {
  private static final int NO_GAIN = -1000000000;
  private static final int MIN = Integer.MIN_VALUE;
  private static final int MAX = Integer.MAX_VALUE;

  private final Due due = new Due("PromisesTest");

  public static void main(String[] args) {
    new PromisesTest().all();
  }

  private void all() {
    newObject();
    colour();
    have();
    owner();
    feed();
    law();
    lawFaults();
    lawReckons();
    lettersAreNew();
    land();
    treaties();
    treatyFaults();
    judged();
    days();
    lastDay();
    tried();
    treatyIs();
    sees();
    appears();
    child();
    unseen();
    way();
    worth();
    gain();
    power();
    signals();
    parted();
    battle();
    spies();
    painting();
    ash();
    seed();
    keepAndUndo();
    check();
    count();
    due.end();
  }

  private void is(String call, long got, long want) {
    due.is(call, got, want);
  }

  private void is(String call, boolean got, boolean want) {
    due.is(call, got, want);
  }

  /** Plain COLOURS 0, 1, 3; 2 is mixed of 0 and 1, 4 of 2 and 3. */
  private static HueWar palette() {
    HueWar war = new HueWar();
    war.colour(0, -1, -1);
    war.colour(1, -1, -1);
    war.colour(2, 0, 1);
    war.colour(3, -1, -1);
    war.colour(4, 2, 3);
    return war;
  }

  /** The answers of the same number of calls with a wrong one of the numbers -1, most + 1, and the ends of int. */
  private static int[] wrong(int most) {
    return new int[] {-1, most + 1, MIN, MAX, -2, most + 100};
  }

  // Promise 1
  private void newObject() {
    HueWar war = new HueWar();
    is("NONE", HueWar.NONE, -1);
    int[] due = {0, 0, 0, 0, 1, 0, 0};
    for (int what = 0; what < due.length; what++) {
      is("new count " + what, war.count(what), due[what]);
    }
    for (int field = 0; field < 64; field++) {
      is("new COLOUR of " + field, war.count(200 + field), 12);
      is("new OWNER of " + field, war.count(300 + field), 6);
    }
    is("new ash", war.ash(0, 0, 0), 64);
    is("new undo", war.undo(), false);
  }

  // Promise 2
  private void colour() {
    HueWar war = new HueWar();
    is("mixed of untold ones", war.colour(5, 0, 1), false);
    is("plain 0", war.colour(0, -1, -1), true);
    is("told twice", war.colour(0, -1, -1), false);
    is("plain 11", war.colour(11, -1, -1), true);
    for (int c : wrong(11)) {
      is("no COLOUR " + c, war.colour(c, -1, -1), false);
    }
    is("of one untold one", war.colour(3, 0, 1), false);
    is("of one untold one", war.colour(3, 1, 0), false);
    is("plain 1", war.colour(1, -1, -1), true);
    is("the two alike", war.colour(3, 1, 1), false);
    is("one NONE", war.colour(3, 0, -1), false);
    is("one NONE", war.colour(3, -1, 0), false);
    is("one below NONE", war.colour(3, -2, -2), false);
    is("not lower", war.colour(3, 0, 11), false);
    is("not lower", war.colour(3, 11, 0), false);
    is("itself", war.colour(3, 3, 0), false);
    is("ash", war.colour(3, 0, 12), false);
    is("none of these was told", war.count(0), 1 | 2 | 1 << 11);
    is("mixed 3", war.colour(3, 1, 0), true);
    is("mixed of a mixed one", war.colour(10, 3, 1), true);
    is("parts", war.count(13), 100);
    is("parts", war.count(20), 301);
    is("mixed ones", war.count(1), 1 << 3 | 1 << 10);
    is("mixed told twice", war.colour(10, -1, -1), false);
  }

  // Promise 3
  private void have() {
    HueWar war = palette();
    is("have", war.have(0, 0, 63), true);
    is("have", war.have(0, 3, 5), true);
    is("count", war.count(100), 63);
    is("count", war.count(103), 5);
    is("have again", war.have(0, 0, 0), true);
    is("count again", war.count(100), 0);
    is("a mixed one", war.have(2, 0, 1), false);
    is("an untold one", war.have(5, 0, 1), false);
    for (int c : wrong(11)) {
      is("no COLOUR", war.have(c, 0, 1), false);
    }
    for (int q : wrong(3)) {
      is("no QUARTER", war.have(0, q, 1), false);
    }
    for (int e : wrong(63)) {
      is("no EMPIRES", war.have(0, 0, e), false);
    }
    is("unchanged", war.count(100), 0);
    is("unchanged", war.count(103), 5);
  }

  // Promise 4
  private void owner() {
    HueWar war = new HueWar();
    is("owner", war.owner(7, 1, 5), true);
    is("its field", war.count(315), 5);
    is("owner", war.owner(0, 7, 0), true);
    is("its field", war.count(356), 0);
    is("nobody", war.owner(7, 1, 6), true);
    is("its field", war.count(315), 6);
    for (int wrong : wrong(7)) {
      is("no x", war.owner(wrong, 0, 0), false);
      is("no y", war.owner(0, wrong, 0), false);
      is("no EMPIRE", war.owner(0, 0, wrong), false);
    }
    is("no EMPIRE", war.owner(0, 0, 7), false);
    is("unchanged", war.count(300), 6);
  }

  // Promise 5
  private void feed() {
    HueWar war = new HueWar();
    war.owner(0, 0, 1);
    is("highest first", war.feed(1, 0x01000000, 0, 0, 0), 20);
    is("right, then not", war.check(2), 1);
    is("empty then", war.count(3), 0);
    is("behind the tape", war.feed(1, 6, 6, 6, 6), 20);
    is("behind the tape", war.feed(6, 6, 6, 6, 6), 40);
    is("in order", war.check(8), -1);
    for (int i = 1; i <= 13; i++) {
      is("feed", war.feed(-1, -1, -1, -1, -1), 20 * i);
    }
    is("full", war.feed(0, 0, 0, 0, 0), -1);
    is("as many as before", war.count(3), 260);
  }

  // Promise 6
  private void law() {
    HueWar war = palette();
    is("one CLAUSE", Due.law(war, "s(a=1)"), 1);
    is("CLAUSES", war.count(2), 1);
    is("four", Due.law(war, "s(a=1);k(b=1);v7(1=1);b3(1=1)"), 4);
    is("a FAULT", Due.law(war, "s(a=1);k(b=1"), -1012);
    is("the one before stays", war.count(2), 4);
    is("empty then", war.count(3), 0);
    Due.feed(war, "s(1=1);");
    for (int n : wrong(240)) {
      is("no n", war.law(n), -1);
    }
    is("n 0", war.law(0), -1);
    is("not so many", war.law(21), -1);
    is("the tape stays", war.count(3), 20);
    is("the first n", war.law(6), 1);
    is("empty then", war.count(3), 0);
    is("not so many", war.law(1), -1);
    String longest = "s(1=1" + "|1=1".repeat(58) + ")";
    is("238 bytes", Due.law(war, longest), 1);
    is("240 bytes", Due.law(war, longest.replace("s(1=1", "s(111=1")), 1);
    String tooLong = "s(" + "1=1|".repeat(59) + "10=10)";
    Due.feed(war, tooLong);
    is("243 bytes", war.law(243), -1);
    is("240 of them", war.law(240), -1240);
    for (int i = 0; i < 13; i++) {
      war.feed(0, 0, 0, 0, 0);
    }
    is("241", war.law(241), -1);
    is("the tape stays", war.count(3), 260);
    is("161", war.land(161), -1);
    is("121", war.treaties(121), -1);
    is("121", war.judged(121), -1);
    is("240", war.law(240), -1000);
    is("sixteen", Due.law(war, "s(1=1)" + ";s(1=1)".repeat(15)), 16);
  }

  private void fault(String text, int answer) {
    HueWar war = palette();
    Due.law(war, "s(1=1);s(1=1)");
    is("law " + text, Due.law(war, text), answer);
    is("CLAUSES behind " + text, war.count(2), answer > 0 ? answer : 2);
  }

  private void lawFaults() {
    fault("e(1=1)", -1000);
    fault("S(1=1)", -1000);
    fault(" s(1=1)", -1000);
    fault("s (1=1)", -1001);
    fault("s1(1=1)", -1001);
    fault("v(1=1)", -1001);
    fault("v1", -1002);
    fault("v1)", -1002);
    fault("v1+(1=1)", -1003);
    fault("v[1(1=1)", -1003);
    fault("v[1)", -1003);
    fault("v1](1=1)", -1002);
    fault("v12345(1=1)", 1);
    fault("v00000(1=1)", 1);
    fault("v123456(1=1)", -2006);
    fault("v1a(1=1)", -1002);
    fault("va1(1=1)", -1002);
    fault("v-1(1=1)", -1001);
    fault("s()", -1002);
    fault("s(1)", -1003);
    fault("s(1=)", -1004);
    fault("s(1=1=1)", -1005);
    fault("s(1==1)", -1004);
    fault("s(1=1", -1005);
    fault("s(1=1))", -1006);
    fault("s(1=1)s(1=1)", -1006);
    fault("s(1=1);", -1007);
    fault("s(1=1);;", -1007);
    fault("s(1=1&)", -1006);
    fault("s(|1=1)", -1002);
    fault("s((1=1)=1)", -1007);
    fault("s(1+(1=1))", -1004);
    fault("s(!1)", -1004);
    fault("s(1=!1)", -1004);
    fault("s([1=1])", -1004);
    fault("s([1]=1)", 1);
    fault("s(f=1)", -1002);
    fault("s(1=1) ", -1006);
    fault("k(1=1);v1(1=1);b1(1=1);s(1=1)", 4);
    // the ( of the CLAUSE counts; a ! is open till its PIECE ends
    fault("s(!!!!!1=1)", 1);
    fault("s(!!!!!!1=1)", -5007);
    fault("s(!!!!!x", -1007);
    fault("s(!1=1&!1=1&!1=1&!1=1&!1=1&!1=1&!1=1)", 1);
    fault("s(((((!1=1)))))", 1);
    fault("s(((((![1]=1)))))", -5007);
    fault("s((((([1]=1)))))", 1);
    fault("s(((((([1]=1))))))", -5007);
    fault("s((((((1=1))))))", 1);
    fault("s(((((((1=1)))))))", -5007);
    fault("v[[[[[[1]]]]]]((((((1=1))))))", 1);
    fault("v[[[[[[[1]]]]]]](1=1)", -5007);
    fault("v[[[[[[!", -1007);
    fault("v1" + "+[1]".repeat(20) + "(1=1)", 1);
    fault("s(1=1)" + ";s(1=1)".repeat(15) + ";v", -4112);
    fault("s(1=1)" + ";s(1=1)".repeat(15) + ";a", -1112);
    fault("s(1=1)" + ";s(1=1)".repeat(15) + ";", -1112);
    fault("s(1=1)" + (char) 0xbb, -1006);
    fault((char) 0xf3 + "(1=1)", -1000);
  }

  /** Whether a child of 1 and 2 sees COLOUR 0, which 1 alone HAS, in QUARTER 3. */
  private void holds(String condition, boolean want) {
    HueWar war = palette();
    war.have(0, 3, 2);
    is("law", Due.law(war, "k(" + condition + ")"), condition.indexOf(';') < 0 ? 1 : 2);
    is(condition, war.child(1, 2, 0, 3), want ? 1 : 0);
  }

  /** What a field in COLOUR 3, one of two of EMPIRE 4's, is worth, on DAY 5, in QUARTER 2. */
  private void amounts(String amount, int want) {
    HueWar war = palette();
    war.have(3, 2, 16 + 8);
    war.owner(0, 0, 4);
    war.owner(1, 0, 4);
    war.owner(2, 0, 4);
    Due.land(war, Due.land("2d6."));
    war.days(5);
    is("law", Due.law(war, "v" + amount + "(1=1)"), 1);
    is(amount, war.worth(4, 2), 2 * want);
  }

  private void lawReckons() {
    holds("1=1", true);
    holds("1=2", false);
    holds("1<2", true);
    holds("2<2", false);
    holds("2>1", true);
    holds("1>1", false);
    holds("!1=2", true);
    holds("!!1=2", false);
    holds("1=2|1=1", true);
    holds("1=1&1=2", false);
    holds("1=1|1=1&1=2", true);
    holds("(1=1|1=1)&1=2", false);
    holds("!1=2&1=2", false);
    holds("!(1=2&1=2)", true);
    holds("e=1&c=0&q=3&d=0&m=0&a=1&b=0&n=0&g=1&o=0", true);
    // what is REFUSED makes the whole C not hold; but only what matters is asked
    holds("1/0=0", false);
    holds("!1/0=0", false);
    holds("1%0=0|1=1", false);
    holds("1=1|1/0=0", true);
    holds("1=2&1/0=0", false);
    holds("1=2&1/0=0|1=1", true);
    holds("!(1=2&1/0=0)", true);
    holds("!(1=1&1/0=0)", false);
    holds("(1=1|1/0=0)&1=1", true);
    holds("(1=2|1/0=0)|1=1", false);
    holds("1=1);k(1/0=0", true);
    holds("1/0=0);k(1=1", true);
    holds("(1=1|1=2|1=2)&1=2", false);
    holds("(1=2&1=1&1=1)|1=1", true);
    holds("1=2|1=2|1=2|1=1", true);
    holds("1=1&1=1&1=1&1=2", false);
    holds("0*[1/0]=0", false);
    holds("1/[1-1]=0|1=1", false);
    // 32 bits
    holds("65536*65536=0", true);
    holds("65536*32768<0", true);
    holds("65536*32768/[0-1]=65536*32768", true);
    holds("65536*32768%[0-1]=0", true);
    holds("[0-7]/2=0-3", true);
    holds("[0-7]%2=0-1", true);
    holds("99999*99999>0", true);
    holds("2-3-4<0-4", true);
    amounts("1+2*3", 7);
    amounts("2*3+1", 7);
    amounts("[1+2]*3", 9);
    amounts("9-3-2", 4);
    amounts("24/4/3*5", 10);
    amounts("17%10", 7);
    amounts("17%10%4*2", 6);
    amounts("99", 99);
    amounts("100", 99);
    amounts("0-1", 0);
    amounts("5/0", 0);
    amounts("5+[3/0]", 0);
    amounts("e", 4);
    amounts("c", 3);
    amounts("q", 2);
    amounts("d", 5);
    amounts("m", 0);
    amounts("n", 2);
    amounts("g", 2);
    amounts("a+b+o", 0);
  }

  /** No letter keeps what it stood for in another kind of CLAUSE. */
  private void lettersAreNew() {
    HueWar war = dawn();
    Due.treaties(war, "0@0+04");
    Due.law(war, "s(a+b=2&n+o=0);k(a=1&b=1&n+o=0);v[a+b+o]*10+n(1=1);b[a+b+n]*10(o>0)");
    Due.land(war, Due.land("aac5."));
    war.owner(0, 0, 0);
    war.owner(1, 0, 0);
    war.owner(2, 0, 0);
    for (int turn = 0; turn < 2; turn++) {
      is("a, b in s", war.sees(0, 2, 0), 1);
      is("a, b in k", war.child(0, 1, 0, 0), 1);
      is("n in v, behind days", war.worth(0, 0), 2 * 2 + 1);
      is("none behind all", war.days(2), 0);
    }
  }

  // Promise 7
  private void land() {
    HueWar war = palette();
    is("told", Due.land(war, "a6.e/4a4b/8./8./8./8./8./3.c1.2d."), 13);
    is("field", war.count(200), 0);
    is("field", war.count(201), 12);
    is("field", war.count(207), 4);
    is("field", war.count(211), 0);
    is("field", war.count(212), 1);
    is("field", war.count(259), 2);
    is("field", war.count(261), 3);
    is("field", war.count(263), 12);
    war.owner(0, 0, 2);
    String[] texts = {"", "x", "9a", "0a", "a/", "8a/8a", "3", "3/", "33a", "8a8", "8aa", "8ax", "7a2", "7a2a", "8a.",
        "8a9", "8f", "f", "f9", "8l", "m", "A", "8a//", "8a/8a/8a/8a/8a/8a/8a/8a/", "8a/8a/8a/8a/8a/8a/8a/8aa",
        "8a/8a/8a/8a/8a/8a/8a/8a1", "8a/8a/8a/8a/8a/8a/8a/8a9", "8a/8a/8a/8a/8a/8a/8a/7a", "8af", "7a2f", "9", "8a1"};
    int[] answers = {-1, -1000, -1000, -1000, -1001, -1005, -1001, -1001, -1001, -6002, -6002, -1002, -6002, -6002, -6002,
        -1002, -7001, -7000, -7000, -7001, -1000, -1000, -1003, -1023, -6023,
        -6023, -1023, -1023, -6002, -6002, -1000, -6002};
    for (int i = 0; i < texts.length; i++) {
      is("land " + texts[i], Due.land(war, texts[i]), answers[i]);
    }
    is("the one before stays", war.count(259), 2);
    is("empty then", war.count(3), 0);
    String longest = "1a1a1a1a1a1a1a1a/".repeat(8).substring(0, 135);
    is("every sign", Due.land(war, longest), 64);
    is("OWNERS stay", war.count(300), 2);
    Due.feed(war, longest + "0".repeat(30));
    for (int n : wrong(160)) {
      is("no n", war.land(n), -1);
    }
    is("161 of 180", war.land(161), -1);
    is("the tape stays", war.count(3), 180);
    is("160 of them", war.land(160), -1135);
    Due.feed(war, "8.");
    is("not so many", war.land(21), -1);
    is("the tape stays", war.count(3), 20);
  }

  // Promise 8
  private void treaties() {
    HueWar war = palette();
    war.have(0, 0, 1);
    war.have(0, 2, 1);
    war.have(1, 3, 3);
    is("gives", Due.treaties(war, "0@02>01"), 1);
    is("given", war.count(100), 2);
    is("given", war.count(102), 2);
    is("not in others", war.count(101), 0);
    is("shares", Due.treaties(war, "0@0+13"), 1);
    is("shared", war.count(100), 2 + 8);
    is("of four that can't", Due.treaties(war, "0@0>01,1@3>01,2@0>01,5@0>01"), 0);
    is("not in all of these", Due.treaties(war, "0@012>14"), 0);
    is("the other one has one", Due.treaties(war, "0@02>13"), 0);
    is("nothing is changed", war.count(102), 2);
    is("one behind the other", Due.treaties(war, "0@2>10,0@2>10,0@2>02,00@2>20"), 3);
    is("given back", war.count(102), 1);
    HueWar twelve = new HueWar();
    twelve.colour(10, -1, -1);
    twelve.colour(11, -1, -1);
    twelve.have(10, 3, 1);
    twelve.have(11, 3, 1);
    is("two digits", Due.treaties(twelve, "10@3>01,11@3>01,11@3>12,10@3+12"), 4);
    is("10", twelve.count(143), 6);
    is("11", twelve.count(147), 4);
    is("TREATIES", war.count(6), 5);
    is("none by a FAULT", Due.treaties(war, "0@2>01,0@2>10x"), -1013);
    is("none", war.count(6), 5);
    is("empty then", war.count(3), 0);
    for (int i = 0; i < 5; i++) {
      is("to and fro", Due.treaties(war, "0@2>01,0@2>10"), 2);
    }
    is("the 16th", Due.treaties(war, "0@2>01,0@2>10"), 1);
    is("16", war.count(6), 16);
    is("where the 16th leaves it", war.count(102), 2);
    Due.feed(war, "0@2>10" + ",0@2>01".repeat(17));
    is("no 121", war.treaties(121), -1);
    is("no 0", war.treaties(0), -1);
    is("the tape stays", war.count(3), 140);
    is("120", war.treaties(120), -4056);
    Due.feed(war, "0@2>10");
    for (int n : wrong(120)) {
      is("no n", war.treaties(n), -1);
    }
    is("not so many", war.treaties(21), -1);
    is("the tape stays", war.count(3), 20);
  }

  private void treatyFaults() {
    HueWar war = palette();
    war.have(0, 0, 1);
    String[] texts = {"@", "0", "00", "000@", "0@", "0@4>01", "0@x", "0@>01", "0@0", "0@0x", "0@0=01", "0@0>", "0@0>0", "0@0>x1",
        "0@0>0x", "0@0>61", "0@0>91", "0@0>06", "0@0>00", "0@0>55", "0@00>01", "0@10>01", "0@0132>01", "0@01233>01", "0@04>01",
        "12", "12@0>01", "1", "99x", "123", "0@0>01,", "0@0>01,x", "0@0>01,12", "0@0>01,0@0>07", "0@0>01 ", "0@0>011", " 0@0>01"};
    int[] answers = {-1000, -1001, -1002, -1002, -1002, -1002, -1002, -1002, -1003, -1003, -1003, -1004, -1005, -1004,
        -1005, -3004, -3004, -3005, -6005, -6005, -6003, -6003, -6005, -6006, -1003,
        -3000, -3000, -1001, -3000, -3000, -1007, -1007, -3007, -3012, -1006, -1006, -1000};
    for (int i = 0; i < texts.length; i++) {
      is("treaties " + texts[i], Due.treaties(war, texts[i]), answers[i]);
      is("judged " + texts[i], Due.judged(war, texts[i]), answers[i]);
    }
    is("none was made", war.count(6), 0);
    String eight = "0@0>12" + ",0@0>12".repeat(7);
    is("eight", Due.treaties(war, eight), 0);
    is("a 9th", Due.treaties(war, eight + ",9"), -4056);
    is("a 9th", Due.treaties(war, eight + ",99"), -4056);
    is("no 9th", Due.treaties(war, eight + ",@"), -1056);
    is("no 9th", Due.treaties(war, eight + ","), -1056);
  }

  // Promise 9
  private void judged() {
    HueWar war = palette();
    war.have(0, 1, 1);
    is("all can", Due.judged(war, "0@1>01,0@1+12,0@1>23"), 3);
    is("nothing is made", war.count(6), 0);
    is("nothing is changed", war.count(101), 1);
    is("the first can't", Due.judged(war, "0@1>12,0@1>01"), 0);
    is("the third can't", Due.judged(war, "0@1>01,0@1>12,0@1>12,0@1>23"), 2);
    is("empty then", war.count(3), 0);
    for (int i = 0; i < 15; i++) {
      Due.treaties(war, i % 2 == 0 ? "0@1>01" : "0@1>10");
    }
    is("the 17th can't", Due.judged(war, "0@1>10,0@1>01"), 1);
    is("15", war.count(6), 15);
    Due.feed(war, "0@1>10");
    for (int n : wrong(120)) {
      is("no n", war.judged(n), -1);
    }
    is("no 0", war.judged(0), -1);
    is("not so many", war.judged(21), -1);
    is("the tape stays", war.count(3), 20);
    is("judged", war.judged(6), 1);
  }

  /** COLOUR 0 in QUARTERS 1, 3 from 2 to 3, COLOUR 1 in QUARTER 0 shared by 4 with 5. */
  private static HueWar pact() {
    HueWar war = palette();
    war.have(0, 1, 4);
    war.have(0, 3, 4);
    war.have(1, 0, 16);
    Due.treaties(war, "0@13>23,1@0+45");
    return war;
  }

  // Promise 10
  private void days() {
    HueWar war = pact();
    is("no LAW", war.days(3), 0);
    is("DAYS", war.count(5), 3);
    int x = 1;
    for (int i = 0; i < 6; i++) {
      x = (25173 * x + 13849) % 65536;
    }
    is("a DRAW for each", war.count(4), x);
    Due.law(war, "b10(c=0);b0(1=1)");
    is("the first one is broken", war.days(1), 1);
    is("has it no more, has it", war.count(101), 4);
    is("has it no more, has it", war.count(103), 4);
    is("kept", war.count(104), 48);
    is("one less", war.count(6), 1);
    is("numbers less by 1", war.treatyIs(0, 0), 1);
    Due.law(war, "b99(1=1)");
    is("shared one is broken", war.days(1), 1);
    is("the giver has it still", war.count(104), 16);
    for (int n : wrong(99)) {
      is("no n", war.days(n), -1);
    }
    is("no n", war.days(0), -1);
    is("no DRAWS without TREATIES", war.days(99), 0);
    is("DAYS", war.count(5), 5 + 99);
    // X modulo 10 below b: the first DRAWS of seed 1 are 39022, 61087: 2, 7
    for (int b = 0; b <= 10; b++) {
      HueWar other = pact();
      Due.law(other, "b" + b + "(1=1)");
      is("b " + b, other.days(1), b > 7 ? 2 : b > 2 ? 1 : 0);
    }
    letters();
    askedThen();
  }

  private void letters() {
    String[] amounts = {"10*[e-1]", "10*[q-0]", "10*d", "10*o", "10*g", "10*m", "10*n", "10*[a+b]", "10*c", "10*[e-3]", "10*[3-e]"};
    // of COLOUR 0: e 2, q 1, d 4, o 4, g 1; of COLOUR 1: e 4, q 0, d 4, o 4, g 2, c 1
    int[] broken = {2, 1, 2, 2, 2, 0, 0, 0, 1, 1, 1};
    for (int i = 0; i < amounts.length; i++) {
      HueWar war = pact();
      war.days(4);
      Due.law(war, "b" + amounts[i] + "(1=1)");
      is("b" + amounts[i], war.days(1), broken[i]);
    }
    HueWar war = pact();
    war.days(4);
    Due.treaties(war, "1@0>40");
    Due.law(war, "b10(o=0)");
    is("the youngest", war.days(1), 1);
    is("the others", war.count(6), 2);
    is("back", war.count(104), 48);
    war.have(3, 2, 7);
    is("three more", Due.treaties(war, "3@2+03,3@2+14,3@2+25"), 3);
    Due.law(war, "b10(c=0|e=1)");
    is("the first and the fourth", war.days(1), 2);
    int[] givers = {4, 0, 2, -1};
    for (int i = 0; i < givers.length; i++) {
      is("those behind move up", war.treatyIs(i, 2), givers[i]);
      is("those behind move up", war.treatyIs(i, 3), i < 3 ? givers[i] == 4 ? 5 : givers[i] + 3 : -1);
      is("those behind move up", war.treatyIs(i, 5), i == 0 ? 0 : i < 3 ? 5 : -1);
    }
  }

  /** b of the second TREATY is asked when the first one is broken. */
  private void askedThen() {
    HueWar war = palette();
    war.have(0, 0, 1);
    Due.treaties(war, "0@0+01,0@0+02");
    Due.law(war, "b10(g=3)");
    is("only the first one", war.days(1), 1);
    is("the second one's", war.count(100), 5);
    is("no more", war.days(9), 0);
  }

  private void lastDay() {
    HueWar war = pact();
    for (int i = 0; i < 101; i++) {
      war.days(99);
    }
    is("THE DAY", war.count(5), 9999);
    int x = war.count(4);
    Due.law(war, "b10(1=1)");
    is("none goes by", war.days(9), 0);
    is("none is tried", war.tried(9, 0), 0);
    is("none is broken", war.tried(9, 1), -2);
    is("THE DAY", war.count(5), 9999);
    is("no DRAW", war.count(4), x);
    HueWar other = new HueWar();
    for (int i = 0; i < 100; i++) {
      other.days(99);
    }
    is("9900", other.count(5), 9900);
    other.days(98);
    is("as many as can", other.days(50), 0);
    is("THE DAY", other.count(5), 9999);
  }

  // Promise 11
  private void tried() {
    HueWar war = pact();
    Due.law(war, "b10(d>2&c=1);b10(d=5)");
    is("none", war.tried(3, 0), 0);
    is("no first one", war.tried(3, 1), -2);
    is("no breaker", war.tried(3, 2), -2);
    is("one", war.tried(4, 0), 1);
    is("its DAY", war.tried(4, 1), 3);
    is("its giver", war.tried(4, 2), 4);
    is("none again", war.tried(3, 1), -2);
    is("none again", war.tried(3, 2), -2);
    is("both", war.tried(99, 0), 2);
    is("the first DAY", war.tried(99, 1), 3);
    is("the first giver", war.tried(99, 2), 4);
    is("COLOUR 1 now", war.tried(1, 11), 2);
    is("COLOUR 1 then", war.tried(4, 11), 1);
    is("COLOUR 0", war.tried(99, 10), 2);
    is("COLOUR 3", war.tried(99, 13), 0);
    is("a mixed one", war.tried(99, 12), -1);
    is("an untold one", war.tried(99, 15), -1);
    for (int n : wrong(99)) {
      is("no n", war.tried(n, 0), -1);
    }
    is("no n", war.tried(0, 0), -1);
    for (int what : new int[] {-1, 3, 9, 22, 23, MIN, MAX, MIN + 10}) {
      is("no what", war.tried(1, what), -1);
    }
    is("DAY", war.count(5), 0);
    is("X", war.count(4), 1);
    is("TREATIES", war.count(6), 2);
    is("what they HAVE", war.count(104), 48);
  }

  // Promise 12
  private void treatyIs() {
    HueWar war = pact();
    war.days(7);
    Due.treaties(war, "1@0>40");
    int[][] all = {{0, 10, 2, 3, 0, 0}, {1, 1, 4, 5, 1, 0}, {1, 1, 4, 0, 0, 7}};
    for (int i = 0; i < 3; i++) {
      for (int what = 0; what < 6; what++) {
        is("treatyIs " + i + " " + what, war.treatyIs(i, what), all[i][what]);
      }
    }
    for (int i : new int[] {-1, 3, 15, 16, MIN, MAX}) {
      is("no TREATY", war.treatyIs(i, 0), -1);
    }
    for (int what : wrong(5)) {
      is("no what", war.treatyIs(0, what), -1);
    }
  }

  /** EMPIRE 0 HAS 0, 1, 3 at dawn, 1 HAS 0, 2 HAS 1, 3 HAS 3, 4 nothing. */
  private static HueWar dawn() {
    HueWar war = palette();
    war.have(0, 0, 1 + 2);
    war.have(1, 0, 1 + 4);
    war.have(3, 0, 1 + 8);
    return war;
  }

  // Promise 13
  private void sees() {
    HueWar war = dawn();
    int[] seen = {31, 1, 2, 8, 0, 0};
    for (int e = 0; e < 6; e++) {
      for (int c = 0; c < 5; c++) {
        is("sees " + e + " " + c, war.sees(e, c, 0), seen[e] >> c & 1);
        is("not at noon", war.sees(e, c, 1), 0);
      }
    }
    Due.law(war, "s(a=1&c=2);s(a=0&b=1&c=4&e=3)");
    is("one part is enough", war.sees(1, 2, 0), 1);
    is("not the second one", war.sees(2, 2, 0), 0);
    is("another CLAUSE", war.sees(3, 4, 0), 1);
    is("not for another EMPIRE", war.sees(0, 4, 0), 0);
    Due.law(war, "s(d=1&q=2&m=1&g=0&n=0&o=0)");
    is("not yet", war.sees(5, 2, 2), 0);
    war.days(1);
    is("this DAY", war.sees(5, 2, 2), 1);
    is("another QUARTER", war.sees(5, 2, 1), 0);
    Due.law(war, "k(1=2);v9(1=2)");
    is("no s in it", war.sees(0, 4, 0), 1);
    Due.law(war, "s(1/0=0);s(1=2)");
    is("REFUSED", war.sees(0, 2, 0), 0);
    is("plain ones are seen without", war.sees(0, 0, 0), 1);
    none(war);
  }

  private void none(HueWar war) {
    for (int e : wrong(5)) {
      is("no EMPIRE", war.sees(e, 0, 0), -1);
      is("no EMPIRE", war.appears(e, 0, 0), -1);
      is("no EMPIRE", war.child(e, 0, 0, 0), -1);
      is("no EMPIRE", war.child(0, e, 0, 0), -1);
      is("no EMPIRE", war.unseen(0, 0, 0, e, 0), -1);
      is("no EMPIRE", war.way(0, 1, 0, e, 0, 0), -1);
      is("no EMPIRE", war.worth(e, 0), -1);
      is("no EMPIRE", war.gain(e, 0, 0), NO_GAIN);
      is("no EMPIRE", war.power(1, 0, e, 0, 0), NO_GAIN);
      is("no EMPIRE", war.battle(e, 0, 0, 0), -1);
      is("no EMPIRE", war.battle(0, e, 0, 0), -1);
      is("no EMPIRE", war.ash(e, 0, 0), -1);
    }
    for (int c : new int[] {-1, 5, 11, 13, MIN, MAX}) {
      is("no COLOUR", war.sees(0, c, 0), -1);
      is("no COLOUR", war.appears(0, c, 0), -1);
      is("no COLOUR", war.child(0, 0, c, 0), -1);
      is("no COLOUR", war.unseen(0, 0, c, 0, 0), -1);
      is("no COLOUR", war.way(0, 1, c, 0, 0, 0), -1);
      is("no COLOUR", war.gain(4, c, 0), NO_GAIN);
      is("no COLOUR", war.power(1, c, 0, 0, 0), NO_GAIN);
    }
    for (int q : wrong(3)) {
      is("no QUARTER", war.sees(0, 0, q), -1);
      is("no QUARTER", war.appears(0, 0, q), -1);
      is("no QUARTER", war.child(0, 0, 0, q), -1);
      is("no QUARTER", war.unseen(0, 0, 0, 0, q), -1);
      is("no QUARTER", war.way(0, 1, 0, 0, q, 0), -1);
      is("no QUARTER", war.worth(0, q), -1);
      is("no QUARTER", war.gain(4, 0, q), NO_GAIN);
      is("no QUARTER", war.power(1, 0, 0, q, 0), NO_GAIN);
      is("no QUARTER", war.battle(0, 1, q, 0), -1);
      is("no QUARTER", war.ash(0, q, 0), -1);
      is("no QUARTER", war.signals(2, 1, 2, q, 0), -1);
    }
    is("ash is not seen", war.sees(0, 12, 0), -1);
    is("ash is no child's", war.child(0, 0, 12, 0), -1);
    is("ash is no uniform", war.unseen(0, 0, 12, 0, 0), -1);
    is("ash is no uniform", war.way(0, 1, 12, 0, 0, 0), -1);
  }

  // Promise 14
  private void appears() {
    HueWar war = dawn();
    int[][] all = {{0, 1, 2, 3, 4}, {0, 12, 0, 12, 0}, {12, 1, 1, 12, 1}, {12, 12, 12, 3, 3}, {12, 12, 12, 12, 12}};
    for (int e = 0; e < 5; e++) {
      for (int c = 0; c < 5; c++) {
        is("appears " + e + " " + c, war.appears(e, c, 0), all[e][c]);
      }
      is("ash", war.appears(e, 12, 0), 12);
    }
    Due.law(war, "s(a=1&c=2)");
    is("seen as its first part is", war.appears(1, 4, 0), 2);
    is("as its first part appears", war.appears(2, 4, 0), 1);
    is("no COLOUR", war.appears(0, 13, 0), -1);
    is("ash to nobody", war.appears(6, 12, 0), -1);
    is("ash never", war.appears(0, 12, 4), -1);
  }

  // Promise 15
  private void child() {
    HueWar war = dawn();
    is("the first one sees it", war.child(0, 4, 4, 0), 1);
    is("the second one sees it", war.child(4, 0, 4, 0), 1);
    is("neither", war.child(1, 2, 2, 0), 0);
    is("one and the same", war.child(1, 1, 0, 0), 1);
    Due.law(war, "s(1=1);k(a=1&b=0&e=1&c=0&q=0&d=0&m=0&g=2&n=0&o=0)");
    is("all letters", war.child(1, 2, 0, 0), 1);
    is("the other way round", war.child(2, 1, 0, 0), 0);
    Due.law(war, "s(a=1);k(m=1&g=0&a=1&b=0)");
    is("parents by s", war.child(1, 2, 2, 0), 1);
    is("not of itself", war.child(1, 1, 2, 0), 0);
    Due.law(war, "k(1=2);k(c=3)");
    is("one of two CLAUSES", war.child(4, 5, 3, 0), 1);
    is("none of two CLAUSES", war.child(0, 0, 0, 0), 0);
  }

  // Promise 16
  private void unseen() {
    HueWar war = dawn();
    Due.land(war, Due.land("8.", "2.abcde."));
    // to EMPIRE 1 they look . . 0 . 0 . 0 .
    int[] zero = {0, 0, 1, 0, 1, 0, 1, 0};
    for (int x = 0; x < 8; x++) {
      is("as 0", war.unseen(x, 1, 0, 1, 0), zero[x]);
      is("as 2", war.unseen(x, 1, 2, 1, 0), zero[x]);
      is("as 3, which is ash", war.unseen(x, 1, 3, 1, 0), 1 - zero[x]);
      is("to EMPIRE 0", war.unseen(x, 1, 2, 0, 0), x == 4 ? 1 : 0);
      is("to EMPIRE 4", war.unseen(x, 1, 2, 4, 0), 1);
    }
    for (int wrong : wrong(7)) {
      is("no x", war.unseen(wrong, 0, 0, 0, 0), -1);
      is("no y", war.unseen(0, wrong, 0, 0, 0), -1);
    }
    is("no untold uniform", war.unseen(0, 0, 5, 0, 0), -1);
  }

  // Promise 17
  private void way() {
    HueWar war = dawn();
    Due.land(war, "7ab/a5bab/ab3ab2a/4ab3a/8a/8b/8a/8a");
    // to EMPIRE 0 in a uniform 0: b is seen
    ways(war, 0, 7, 0, -2, 1, 7);
    ways(war, 0, 6, 0, 6, 0, 6);
    ways(war, 0, 14, 0, 7, 0, 7);
    ways(war, 8, 23, 0, 10, 0, 10);
    ways(war, 7, 0, 0, 7, 0, 7);
    ways(war, 0, 63, 0, -2, 1, 14);
    ways(war, 0, 19, 0, 7, 0, 7);
    ways(war, 0, 24, 0, 3, 0, 3);
    ways(war, 56, 63, 0, 7, 0, 7);
    ways(war, 5, 5, 0, 0, 0, 0);
    ways(war, 7, 7, 0, 0, 0, 0);
    // to EMPIRE 4 all is ash
    ways(war, 0, 63, 4, 14, 0, 14);
    Due.land(war, "ab6a/ababbbaa/aba4ba/aba5b/3a5b/8b/8b/8b");
    // a long unseen way is less seen than a short seen one; of two as little seen the shorter one
    ways(war, 0, 10, 0, 9, 0, 9);
    ways(war, 0, 1, 0, -2, 1, 1);
    ways(war, 0, 9, 0, -2, 1, 2);
    ways(war, 0, 11, 0, -2, 1, 10);
    for (int wrong : wrong(63)) {
      is("no field", war.way(wrong, 0, 0, 0, 0, 0), -1);
      is("no field", war.way(0, wrong, 0, 0, 0, 0), -1);
    }
    for (int what : wrong(2)) {
      is("no what", war.way(0, 1, 0, 0, 0, what), -1);
    }
    HueWar snake = dawn();
    Due.land(snake, "8a/7ba/8a/a7b/8a/7ba/8a/a7b");
    ways(snake, 0, 55, 0, 27, 0, 27);
    ways(snake, 0, 63, 0, -2, 1, 28);
    ways(snake, 0, 8, 0, -2, 1, 1);
  }

  private void ways(HueWar war, int a, int b, int e, int none, int seen, int steps) {
    is("way " + a + " " + b, war.way(a, b, 0, e, 0, 0), none);
    is("seen " + a + " " + b, war.way(a, b, 0, e, 0, 1), seen);
    is("steps " + a + " " + b, war.way(a, b, 0, e, 0, 2), steps);
  }

  // Promise 18
  private void worth() {
    HueWar war = dawn();
    Due.land(war, Due.land("abcde3.", "a7."));
    for (int x = 0; x < 8; x++) {
      war.owner(x, 0, 0);
    }
    is("no LAW", war.worth(0, 0), 0);
    Due.law(war, "v10+c(1=1)");
    is("all but ash", war.worth(0, 0), 60);
    is("none at noon", war.worth(0, 1), 0);
    is("no fields", war.worth(1, 0), 0);
    war.owner(0, 1, 0);
    is("one more", war.worth(0, 0), 70);
    Due.law(war, "v10*n(c=0);v1(c=0);v5(m=1);v0-9(1=1)");
    is("the first that holds", war.worth(0, 0), 2 * 20 + 2 * 5);
    for (int x = 0; x < 8; x++) {
      war.owner(x, 0, 1);
    }
    is("what it sees", war.worth(1, 0), 10);
    Due.law(war, "v99999(1=1);s(1=1)");
    is("99 each, mixed ones by s", war.worth(1, 0), 3 * 99);
    is("-1 for none", war.worth(6, 0), -1);
  }

  // Promise 19
  private void gain() {
    HueWar war = dawn();
    Due.land(war, Due.land("abcde3."));
    for (int x = 0; x < 8; x++) {
      war.owner(x, 0, 1);
    }
    Due.law(war, "v10+c(1=1)");
    is("1 and 2 with it", war.gain(1, 1, 0), 11 + 12);
    is("3 alone", war.gain(1, 3, 0), 13);
    is("it HAS it", war.gain(1, 0, 0), NO_GAIN);
    is("another QUARTER", war.gain(1, 0, 1), 10);
    is("a mixed one", war.gain(1, 2, 0), NO_GAIN);
    is("nothing is changed", war.count(104), 5);
    is("no fields", war.gain(2, 0, 0), 0);
    // it is one more that HAVE it, and 2 is worth less the more of them there are
    Due.law(war, "v10*g(1=1)");
    is("g", war.gain(1, 1, 0), 30);
    Due.law(war, "s(c=2&a=1&b=0);v50(c=2)");
    is("below 0", war.gain(1, 1, 0), -50);
  }

  // Promise 20
  private void power() {
    HueWar war = dawn();
    Due.land(war, Due.land("abcde3."));
    for (int x = 0; x < 8; x++) {
      war.owner(x, 0, 4);
    }
    Due.law(war, "v10+c(1=1)");
    powers(war, 4, 1, 0, 10, 1);
    powers(war, 4, 3, 0, 16, 1);
    powers(war, 4, 3, 1, 17, 1);
    // of 0, 1, 3: 2 (12) halves between 0 and 1; 4 (14) in thirds
    powers(war, 4, 11, 0, 16 * 3 + 14, 3);
    powers(war, 4, 11, 1, 17 * 3 + 14, 3);
    powers(war, 4, 11, 3, 13 * 3 + 14, 3);
    powers(war, 4, 9, 3, 13, 1);
    Due.law(war, "s(c=2&a=1&b=0);v9(c=2)");
    powers(war, 4, 3, 0, 9, 2);
    powers(war, 4, 3, 1, -9, 2);
    powers(war, 4, 8, 3, 0, 1);
    // with a group seen, the EMPIRE is one of those that HAVE each of it: g is 3
    Due.law(war, "v10*g(1=1)");
    powers(war, 4, 1, 0, 30, 1);
    powers(war, 4, 3, 0, 30, 1);
    powers(war, 4, 3, 1, 30, 1);
    is("nobody else HAS it then", war.power(1, 0, 4, 1, 0), 10);
    is("what they HAVE stays", war.count(100), 3);
    is("what they HAVE stays", war.count(104), 5);
    // one that HAS it is not counted twice, and one that it HAS beyond the group is not seen
    war.owner(0, 0, 0);
    war.owner(1, 0, 0);
    powers(war, 0, 1, 0, 20, 1);
    war.owner(0, 0, 4);
    war.owner(1, 0, 4);
    is("nobody's fields", war.power(3, 0, 0, 0, 0), 0);
    is("nobody's fields", war.power(3, 0, 0, 0, 1), 1);
    for (int set : new int[] {0, -1, MIN, 4, 5, 33, 4096, 4097}) {
      is("no such set " + set, war.power(set, 0, 4, 0, 0), NO_GAIN);
    }
    is("not of them", war.power(3, 3, 4, 0, 0), NO_GAIN);
    is("ash", war.power(3, 12, 4, 0, 0), NO_GAIN);
    is("33", war.power(3, 33, 4, 0, 0), NO_GAIN);
    for (int what : wrong(1)) {
      is("no what", war.power(3, 0, 4, 0, what), NO_GAIN);
    }
    sixPlain();
  }

  private void sixPlain() {
    HueWar war = new HueWar();
    for (int c = 0; c < 6; c++) {
      war.colour(c, -1, -1);
    }
    war.colour(6, 0, 1);
    war.colour(7, 2, 3);
    war.colour(8, 6, 7);
    war.colour(9, 8, 4);
    war.owner(0, 0, 0);
    Due.land(war, Due.land("j7."));
    Due.law(war, "v6(1=1)");
    powers(war, 0, 31, 0, 6, 5);
    powers(war, 0, 31, 4, 6, 5);
    powers(war, 0, 15, 0, 0, 1);
    is("six", war.power(63, 0, 0, 0, 0), NO_GAIN);
  }

  private void powers(HueWar war, int e, int set, int c, int above, int below) {
    is("power of " + c + " in " + set, war.power(set, c, e, 0, 0), above);
    is("below of " + c + " in " + set, war.power(set, c, e, 0, 1), below);
  }

  // Promise 21
  private void signals() {
    HueWar war = dawn();
    // to 0: 0 1 2 3 4; to 1: 0 . 0 . 0; to 2: . 1 1 . 1; to 3: . . . 3 3; to 4: all ash
    signal(war, 2, 1, 16, 10, 3);
    signal(war, 3, 1, 16, 10, 7);
    signal(war, 5, 1, 16, 1, 31);
    signal(war, 6, 1, 16, 0, -2);
    signal(war, 2, 1, 0, 10, 3);
    signal(war, 2, 1, 2, 4, 5);
    signal(war, 3, 1, 2, 1, 21);
    signal(war, 2, 1, 2 + 4, 1, 20);
    signal(war, 2, 1, 2 + 8, 1, 5);
    signal(war, 2, 2, 0, 0, -2);
    signal(war, 2, 1 + 2, 0, 0, -2);
    signal(war, 2, 1, 2 + 4 + 8, 0, -2);
    is("most", war.signals(0, 1, 16, 0, 2), 5);
    is("most", war.signals(MIN, 1, 2, 0, 2), 3);
    is("most", war.signals(7, 1, 2 + 8, 0, 2), 2);
    is("none", war.signals(2, 2, 0, 0, 2), 0);
    is("at noon", war.signals(2, 1, 0, 1, 0), 0);
    for (int n : new int[] {1, 7, 0, -1, MIN, MAX}) {
      is("no n", war.signals(n, 1, 16, 0, 0), -1);
      is("no n", war.signals(n, 1, 16, 0, 1), -1);
    }
    for (int wrong : wrong(63)) {
      is("no friends", war.signals(2, wrong, 0, 0, 0), -1);
      is("no foes", war.signals(2, 1, wrong, 0, 0), -1);
    }
    is("no friend", war.signals(2, 0, 1, 0, 0), -1);
    is("both", war.signals(2, 3, 6, 0, 0), -1);
    for (int what : wrong(2)) {
      is("no what", war.signals(2, 1, 16, 0, what), -1);
    }
    HueWar six = new HueWar();
    for (int c = 0; c < 12; c++) {
      six.colour(c, -1, -1);
      six.have(c, 2, 1);
    }
    is("all sets of 6 of 12", six.signals(6, 1, 62, 2, 0), 924);
    is("6 is most", six.signals(6, 1, 62, 2, 2), 6);
  }

  private void signal(HueWar war, int n, int friends, int foes, int sets, int first) {
    String call = "signals " + n + " " + friends + " " + foes;
    is(call, war.signals(n, friends, foes, 0, 0), sets);
    is(call + " first", war.signals(n, friends, foes, 0, 1), first);
  }

  // Promise 22
  private void parted() {
    HueWar war = new HueWar();
    is("least", Due.parted(war, 0, 9, 0, 0, 0, 0, 9, 9, 9), 9);
    is("least row", Due.parted(war, 12, 9, 0, 0, 0, 0, 9, 9, 9), 0);
    is("least row", Due.parted(war, 13, 9, 0, 0, 0, 0, 9, 9, 9), 1);
    is("empty then", war.count(3), 0);
    is("all alike", Due.parted(war, 0, 5, 5, 5, 5, 5, 5, 5, 5), 10);
    int[] row = {0, 0, 1, 1};
    for (int q = 0; q < 4; q++) {
      is("of like ones the least", Due.parted(war, 10 + q, 5, 5, 5, 5, 5, 5, 5, 5), row[q]);
    }
    is("no envy", Due.parted(war, 1, 5, 5, 5, 5, 5, 5, 5, 5), 0);
    is("nothing to part", Due.parted(war, 0, 0, 0, 0, 0, 0, 0, 0, 0), 0);
    is("the first takes all", Due.parted(war, 13, 0, 0, 0, 0, 0, 0, 0, 0), 0);
    is("three", Due.parted(war, 0, 1, 2, 3, 4, 4, 3, 2, 1, 99, 99, 0, 0), 4);
    is("three, 0", Due.parted(war, 10, 1, 2, 3, 4, 4, 3, 2, 1, 99, 99, 0, 0), 1);
    is("three, 1", Due.parted(war, 11, 1, 2, 3, 4, 4, 3, 2, 1, 99, 99, 0, 0), 2);
    is("three, 2", Due.parted(war, 12, 1, 2, 3, 4, 4, 3, 2, 1, 99, 99, 0, 0), 0);
    is("three, 3", Due.parted(war, 13, 1, 2, 3, 4, 4, 3, 2, 1, 99, 99, 0, 0), 0);
    // row 0 0 1 2: 1 thinks more of 0's, 2 too
    is("two envy one", Due.parted(war, 1, 9, 9, 0, 0, 9, 9, 9, 0, 9, 9, 0, 9), 2);
    // row 0 0 1 2: 0 and 1 think more of what the other one has
    is("a two counts once", Due.parted(war, 1, 3, 2, 20, 0, 9, 9, 5, 0, 0, 0, 0, 5), 1);
    for (int what : new int[] {-1, 2, 9, 14, MIN, MAX, MIN + 10}) {
      Due.feed(war, 1);
      is("no what", war.parted(2, what), -1);
      is("the tape stays", war.count(3) > 0, true);
    }
    for (int m : new int[] {1, 4, 0, -1, MIN, MAX}) {
      is("no m", war.parted(m, 0), -1);
    }
    war.check(0);
    is("99", Due.parted(war, 0, 99, 0, 0, 0, 0, 99, 0, 0), 99);
    is("100", Due.parted(war, 0, 99, 0, 0, 0, 0, 99, 0, 100), -2);
    is("empty then", war.count(3), 0);
    is("255", Due.parted(war, 11, 255, 0, 0, 0, 0, 99, 0, 0), -2);
    Due.feed(war, 1, 1, 1, 1, 1, 1, 1, 1, 100, 100, 100, 100);
    is("is not looked at", war.parted(2, 0), 2);
    is("not so many", war.parted(2, 0), -1);
  }

  // Promise 23
  private void battle() {
    HueWar war = new HueWar();
    for (int c = 0; c < 6; c++) {
      war.colour(c, -1, -1);
    }
    war.colour(6, 0, 3);
    // 0 HAS 0, 1, 2; 1 HAS 3, 4; both HAVE 5
    for (int c = 0; c < 3; c++) {
      war.have(c, 1, 1);
    }
    war.have(3, 1, 2);
    war.have(4, 1, 2);
    war.have(5, 1, 3);
    battles(war, 0, 1, 6, 3, 0);
    battles(war, 1, 0, 6, 0, 3);
    Due.land(war, Due.land("abcdefg."));
    for (int x = 0; x < 8; x++) {
      war.owner(x, 0, 0);
    }
    Due.law(war, "v10+c(m=0);v50(m=1)");
    // 0 takes 3 for the mixed one, but not when 1 takes 0; 1 has no fields
    battles(war, 0, 1, 3, 3, 1);
    Due.law(war, "v10+c(m=0)");
    battles(war, 0, 1, 3, 4, 0);
    for (int x = 0; x < 3; x++) {
      war.owner(x, 0, 1);
    }
    battles(war, 0, 1, 1, 4, 2);
    is("another QUARTER", war.battle(0, 1, 0, 0), 0);
    is("another QUARTER", war.battle(0, 1, 0, 1), -2);
    is("another QUARTER", war.battle(0, 1, 0, 2), -2);
    is("one has no choice", war.battle(0, 2, 1, 0), 0);
    is("one twice", war.battle(3, 3, 1, 0), -1);
    for (int what : wrong(2)) {
      is("no what", war.battle(0, 1, 1, what), -1);
    }
    is("nothing is changed", war.count(101), 1);
    is("nothing is changed", war.count(113), 2);
  }

  private void battles(HueWar war, int a, int b, int twos, int first, int second) {
    is("twos", war.battle(a, b, 1, 0), twos);
    is("the first", war.battle(a, b, 1, 1), first);
    is("the second", war.battle(a, b, 1, 2), second);
  }

  // Promise 24
  private void spies() {
    HueWar war = dawn();
    is("stopped for 0", Due.spies(war, 0, 0, 0, 1), 3);
    is("did not", Due.spies(war, 0, 0, 0, 0), 63 - 3);
    is("stopped for a mixed one's part", Due.spies(war, 0, 2, 0, 1), 7);
    is("did both", Due.spies(war, 0, 2, 0, 1, 0, 0, 0), 4);
    is("nobody", Due.spies(war, 0, 2, 1, 1), 0);
    is("to show nobody", Due.spies(war, 1, 2, 1, 1), 0);
    is("to show nobody", Due.spies(war, 2, 2, 1, 1), 0);
    // all fit: 0 splits 2, 4; 2 (mixed) splits 3, 3
    is("to show", Due.spies(war, 1, 0, 1, 0), 2);
    is("to show", Due.spies(war, 2, 0, 1, 0), 0);
    war.have(1, 3, 7);
    is("to show", Due.spies(war, 1, 0, 1, 0), 1);
    is("to show", Due.spies(war, 2, 0, 1, 0), 3);
    war.have(1, 2, 7 << 3);
    is("the lowest QUARTER", Due.spies(war, 2, 0, 1, 0), 2);
    is("empty then", war.count(3), 0);
    is("ten", Due.spies(war, 0, new int[30]), 60);
    is("three", Due.spies(war, 0, 4, 0, 1, 0, 0, 0, 1, 2, 0), 4);
    is("four", Due.spies(war, 0, 4, 0, 1, 1, 2, 0, 0, 1, 0, 1, 3, 1), 7);
    is("the fourth one", Due.spies(war, 0, 4, 0, 1, 1, 2, 0, 0, 1, 0, 3, 0, 1), 1);
    is("behind them", Due.spies(war, 0, 4, 0, 1, 1, 2, 0, 0, 1, 0, 3, 0, 0), 6);
    Due.feed(war, 4, 0, 1, 0, 0, 0, 9, 9, 9);
    is("is not looked at", war.spies(2, 0), 4 + 8);
    for (int[] wrong : new int[][] {{5, 0, 0}, {12, 0, 0}, {255, 0, 0}, {0, 4, 0}, {0, 0, 2}, {0, 0, 1, 0, 255, 0}, {0, 0, 1, 0, 0, 0, 1, 0, 9},
        {1, 1, 1, 1, 1, 1, 5, 1, 1}, {1, 1, 1, 1, 1, 1, 1, 4, 1}, {0, 3, 1, 1, 2, 0, 1, 1, 1, 3, 3, 3}}) {
      is("no such ones in it", Due.spies(war, 1, wrong), -2);
      is("empty then", war.count(3), 0);
    }
    Due.feed(war, new int[40]);
    for (int n : new int[] {0, 11, -1, MIN, MAX}) {
      is("no n", war.spies(n, 0), -1);
    }
    for (int what : wrong(2)) {
      is("no what", war.spies(1, what), -1);
    }
    is("the tape stays", war.count(3), 40);
    war.check(0);
    Due.feed(war, 0);
    is("not so many", war.spies(7, 0), -1);
    is("six", war.spies(6, 0), 60);
  }

  // Promise 25
  private void painting() {
    HueWar war = dawn();
    war.have(0, 3, 32);
    is("twos", war.painting(1, 0), 3);
    is("first", war.painting(1, 1), 0);
    is("first", war.painting(1, 2), 0);
    is("all", war.painting(31, 0), 1);
    is("of 1", war.painting(2, 0), 2);
    war.have(0, 0, 0);
    is("twos", war.painting(1, 0), 1);
    is("EMPIRE", war.painting(1, 1), 5);
    is("QUARTER", war.painting(1, 2), 3);
    is("none", war.painting(3, 0), 0);
    is("none", war.painting(3, 1), -2);
    is("none", war.painting(3, 2), -2);
    is("no COLOURS, which all see", war.painting(0, 0), 24);
    Due.law(war, "s(q=2)");
    is("by s", war.painting(4, 0), 6);
    is("by s", war.painting(4, 2), 2);
    for (int set : new int[] {32, 33, 4096, 4097, -1, MIN, MAX}) {
      is("no such set", war.painting(set, 0), -1);
    }
    for (int what : wrong(2)) {
      is("no what", war.painting(1, what), -1);
    }
  }

  // Promise 26
  private void ash() {
    HueWar war = dawn();
    Due.land(war, "a.a5b/.a.5b/a.a2b3c/8d/8e/8a/8.");
    is("a FAULT", war.count(200), 12);
    Due.land(war, "a.a5b/.a.5b/a.a2b3c/8d/8e/8a/8./.6a.");
    ashes(war, 0, 4 + 8 + 2, 10, 5);
    ashes(war, 1, 4 + 12 + 8 + 8 + 2, 1 + 12 + 1 + 8, 5 - 1);
    ashes(war, 4, 64, 64, 1);
    Due.land(war, "8a/8a/8a/8a/8a/8a/8a/8a");
    ashes(war, 0, 0, 0, 0);
    Due.land(war, "a.a.a.a./.a.a.a.a/a.a.a.a./.a.a.a.a/a.a.a.a./.a.a.a.a/a.a.a.a./.a.a.a.a");
    ashes(war, 1, 32, 1, 32);
    for (int what : wrong(2)) {
      is("no what", war.ash(0, 0, what), -1);
    }
  }

  private void ashes(HueWar war, int e, int fields, int largest, int seas) {
    is("fields", war.ash(e, 0, 0), fields);
    is("largest", war.ash(e, 0, 1), largest);
    is("seas", war.ash(e, 0, 2), seas);
  }

  // Promise 27
  private void seed() {
    HueWar war = pact();
    is("seed", war.seed(65535), true);
    is("X", war.count(4), 65535);
    war.days(1);
    is("two DRAWS", war.count(4), (25173 * ((25173 * 65535 + 13849) % 65536) + 13849) % 65536);
    is("seed", war.seed(0), true);
    is("X", war.count(4), 0);
    for (int x : wrong(65535)) {
      is("no such number", war.seed(x), false);
    }
    is("X stays", war.count(4), 0);
  }

  // Promises 28, 29
  private void keepAndUndo() {
    HueWar war = pact();
    is("none was KEPT", war.undo(), false);
    war.owner(2, 2, 3);
    is("keep", war.keep(), 2);
    Due.law(war, "b10(1=1);v1(1=1)");
    war.owner(2, 2, 4);
    war.days(3);
    war.have(3, 0, 7);
    war.colour(5, -1, -1);
    war.have(5, 0, 7);
    Due.land(war, Due.land("8a"));
    is("undo", war.undo(), true);
    is("TREATIES", war.count(6), 2);
    is("a TREATY", war.treatyIs(1, 3), 5);
    is("DAY", war.count(5), 0);
    is("X", war.count(4), 1);
    is("OWNER", war.count(318), 3);
    is("has", war.count(101), 8);
    is("has", war.count(112), 0);
    is("has", war.count(120), 0);
    is("COLOURS stay", war.count(0), 63);
    is("LAW stays", war.count(2), 2);
    is("LAND stays", war.count(200), 0);
    war.days(1);
    is("undo again", war.undo(), true);
    is("TREATIES", war.count(6), 2);
    war.days(1);
    is("keep later", war.keep(), 0);
    war.days(1);
    is("undo", war.undo(), true);
    is("as KEPT last", war.count(5), 1);
    is("as KEPT last", war.count(6), 0);
    Due.feed(war, 1);
    war.undo();
    is("the tape stays", war.count(3), 20);
  }

  // Promise 30
  private void check() {
    HueWar war = new HueWar();
    war.owner(0, 0, 0);
    war.owner(7, 0, 5);
    int[] right = new int[40];
    for (int i = 0; i < 8; i++) {
      right[4 * i + 3] = i == 0 ? 0 : i == 7 ? 5 : 6;
    }
    Due.feed(war, right);
    is("right", war.check(8), -1);
    is("empty then", war.count(3), 0);
    right[31] = 6;
    Due.feed(war, right);
    is("the last one", war.check(8), 7);
    Due.feed(war, right);
    is("the first seven", war.check(7), -1);
    for (int i = 0; i < 3; i++) {
      right[i + 4] = 1;
      Due.feed(war, right);
      is("a high byte", war.check(8), 1);
      right[i + 4] = 0;
    }
    Due.feed(war, right);
    is("none of them", war.check(0), -1);
    is("empty then", war.count(3), 0);
    is("none of none", war.check(0), -1);
    Due.feed(war, 1, 2, 3);
    for (int n : wrong(8)) {
      is("no n", war.check(n), -2);
    }
    is("not so many", war.check(6), -2);
    is("the tape stays", war.count(3), 20);
    is("five", war.check(5), 0);
  }

  // Promise 31
  private void count() {
    HueWar war = pact();
    Due.feed(war, 1);
    Due.law(war, "s(1=1)");
    war.check(0);
    Due.law(war, "s(1=1);s(1=1)");
    war.days(2);
    war.owner(7, 7, 4);
    Due.land(war, Due.land("8.", "8.", "8.", "8.", "8.", "8.", "8.", "7.b"));
    Due.feed(war, 1);
    int[] first = {31, 4 + 16, 2, 20, -1, 2, 2};
    for (int what = 0; what < 7; what++) {
      if (what != 4) {
        is("count " + what, war.count(what), first[what]);
      }
    }
    int[] parts = {-1, -1, 1, -1, 203, -1, -1, -1, -1, -1, -1, -1};
    for (int c = 0; c < 12; c++) {
      is("parts of " + c, war.count(10 + c), parts[c]);
    }
    is("has", war.count(101), 8);
    is("has", war.count(103), 8);
    is("has", war.count(104), 48);
    is("has", war.count(115), 0);
    war.colour(11, 4, 0);
    is("parts of 11", war.count(21), 400);
    is("a mixed one", war.count(108), -1);
    is("an untold one", war.count(120), -1);
    is("the last field", war.count(263), 1);
    is("the last OWNER", war.count(363), 4);
    for (int what : new int[] {-1, 7, 8, 9, 22, 99, 148, 199, 264, 299, 364, MIN, MAX, MIN + 10, MIN + 100, MIN + 300}) {
      is("no " + what, war.count(what), -1);
    }
  }
}
