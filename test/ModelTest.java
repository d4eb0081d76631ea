import java.util.Random;

/** Random calls, each answered by HueWar as by the Model; nothing is promised behind the 512th call of a run. */
public final class ModelTest {
  private static final int RUNS = 600;
  /** Behind so many calls one more step, which takes 20 calls at most, and what state() asks are left. */
  private static final int CALLS = 360;
  private static final int LAST_CALLS = 500;

  private final Random random;
  private final HueWar war = new HueWar();
  private final Model model = new Model();
  private final Due due;
  private final int run;
  private int told = 0;
  private int calls = 0;

  private ModelTest(int run, Due due) {
    this.run = run;
    this.random = new Random(run);
    this.due = due;
  }

  public static void main(String[] args) {
    Due due = new Due("ModelTest");
    int runs = args.length > 0 ? Integer.parseInt(args[0]) : RUNS;
    for (int run = 0; run < runs; run++) {
      new ModelTest(run, due).go();
    }
    due.end();
  }

  private void go() {
    begin();
    while (calls < CALLS) {
      call();
    }
    state();
  }

  private void is(String call, long got, long want) {
    calls++;
    due.is("run " + run + ": " + call, got, want);
  }

  private void is(String call, boolean got, boolean want) {
    calls++;
    due.is("run " + run + ": " + call, got, want);
  }

  private int count(int what) {
    calls++;
    return war.count(what);
  }

  // -- what is drawn --

  /** Of so many, now and then a wrong one. */
  private int of(int howMany) {
    int luck = random.nextInt(100);
    if (luck == 0) {
      return new int[] {-1, howMany, Integer.MIN_VALUE, Integer.MAX_VALUE, -2, 13}[random.nextInt(6)];
    }
    return random.nextInt(howMany);
  }

  private boolean luck(int percent) {
    return random.nextInt(100) < percent;
  }

  private int empires() {
    return luck(1) ? 64 : random.nextInt(64) & (luck(50) ? random.nextInt(64) : 63);
  }

  private int set(int most) {
    int set = 0;
    for (int i = random.nextInt(most) + 1; i > 0; i--) {
      set |= 1 << random.nextInt(12);
    }
    return luck(5) ? random.nextInt(5000) - 100 : luck(90) ? set & told : set;
  }

  private String pick(String... all) {
    return all[random.nextInt(all.length)];
  }

  private String factor(int depth) {
    if (depth > 0 && luck(20)) {
      return "[" + sum(depth - 1) + "]";
    }
    if (luck(25)) {
      return "" + random.nextInt(luck(70) ? 10 : luck(90) ? 100 : 100000);
    }
    return pick("e", "c", "q", "d", "m", "a", "b", "n", "g", "o");
  }

  private String sum(int depth) {
    StringBuilder sum = new StringBuilder(factor(depth));
    while (luck(35) && sum.length() < 30) {
      sum.append(pick("+", "-", "*", "/", "%")).append(factor(depth));
    }
    return sum.toString();
  }

  private String piece(int depth) {
    if (depth > 0 && luck(30)) {
      return luck(50) ? "!" + piece(depth - 1) : "(" + condition(depth - 1) + ")";
    }
    return sum(Math.min(depth, 2)) + pick("<", ">", "=") + sum(Math.min(depth, 2));
  }

  private String condition(int depth) {
    StringBuilder condition = new StringBuilder(piece(depth));
    while (luck(35) && condition.length() < 60) {
      condition.append(pick("&", "|")).append(piece(depth));
    }
    return condition.toString();
  }

  /** Like law(), but with a CLAUSE of each kind that holds more often than not. */
  private String kindLaw() {
    StringBuilder law = new StringBuilder();
    if (luck(50)) {
      law.append("s").append(luck(50) ? "(a=1|b=1&e<" + random.nextInt(6) + ")" : "(" + condition(1) + ")").append(';');
    }
    if (luck(50)) {
      law.append("k(").append(condition(1)).append(");");
    }
    if (luck(50)) {
      law.append("v").append(sum(1)).append('(').append(piece(1)).append(");");
    }
    law.append('v').append(random.nextInt(60)).append(pick("+", "-")).append(sum(1)).append("(1=1);");
    law.append('b').append(sum(1)).append('(').append(piece(1)).append(");");
    law.append('b').append(random.nextInt(4)).append("(0=0)");
    return law.length() > 240 ? "v9(0=0)" : law.toString();
  }

  private String law() {
    if (luck(60)) {
      return kindLaw();
    }
    StringBuilder law = new StringBuilder();
    int clauses = luck(5) ? 17 : random.nextInt(5) + 1;
    for (int i = 0; i < clauses; i++) {
      String kind = pick("v", "b", "s", "k");
      law.append(i > 0 ? ";" : "").append(kind);
      if (kind.equals("v") || kind.equals("b")) {
        law.append(clauses == 17 ? "n" : sum(luck(90) ? 2 : 7));
      }
      law.append('(').append(clauses == 17 ? "1=1" : condition(luck(90) ? 2 : 7)).append(')');
    }
    return spoilt(law, "vbsk();&|!<>=+-*/%[]ecqdmabngo0123456789x");
  }

  private String land() {
    StringBuilder land = new StringBuilder();
    for (int y = 0; y < 8; y++) {
      land.append(y > 0 ? "/" : "");
      for (int x = 0; x < 8;) {
        int many = Math.min(8 - x, luck(60) ? 1 : random.nextInt(8) + 1);
        int c = random.nextInt(12);
        boolean isKnown = (told >> c & 1) == 1 || luck(1) && luck(20);
        land.append(many > 1 || luck(10) ? "" + many : "").append(isKnown ? (char) ('a' + c) : '.');
        x += many;
      }
    }
    return spoilt(land, "abcdefghijklm./0123456789");
  }

  private String lines() {
    StringBuilder lines = new StringBuilder();
    int many = luck(3) ? 9 : random.nextInt(4) + 1;
    for (int i = 0; i < many; i++) {
      if (luck(70)) {
        lines.append(i > 0 ? "," : "").append(likelyLine());
        continue;
      }
      int giver = random.nextInt(6);
      lines.append(i > 0 ? "," : "").append(luck(5) ? "0" : "").append(random.nextInt(12)).append('@');
      int quarters = luck(70) ? 1 << random.nextInt(4) : random.nextInt(15) + 1;
      for (int q = 0; q < 4; q++) {
        lines.append((quarters >> q & 1) == 1 ? "" + q : "");
      }
      lines.append(pick(">", "+")).append(giver).append((giver + 1 + random.nextInt(5)) % 6);
    }
    return spoilt(lines, "0123456789@>+,x");
  }

  /** One that can be, if there are any EMPIRES with and without the COLOUR that was drawn. */
  private String likelyLine() {
    int c = random.nextInt(12);
    int q = random.nextInt(4);
    int havers = Math.max(0, count(100 + 4 * c + q));
    int giver = random.nextInt(6);
    int other = random.nextInt(6);
    for (int i = 0; i < 6 && (havers >> giver & 1) == 0; i++) {
      giver = (giver + 1) % 6;
    }
    for (int i = 0; i < 6 && ((havers >> other & 1) == 1 || other == giver); i++) {
      other = (other + 1) % 6;
    }
    int later = q + 1 + random.nextInt(4);
    return c + "@" + q + (luck(20) && later < 4 ? "" + later : "") + pick(">", "+") + giver + other;
  }

  private String spoilt(StringBuilder text, String signs) {
    for (int i = luck(25) ? random.nextInt(2) + 1 : 0; i > 0 && text.length() > 0; i--) {
      int at = random.nextInt(text.length());
      char sign = luck(5) ? (char) random.nextInt(256) : signs.charAt(random.nextInt(signs.length()));
      switch (random.nextInt(4)) {
        case 0: text.setCharAt(at, sign); break;
        case 1: text.insert(at, sign); break;
        case 2: text.deleteCharAt(at); break;
        default: text.setLength(at);
      }
    }
    return text.toString();
  }

  // -- calls of both --

  private void feed(int... bytes) {
    for (int at = 0; at < bytes.length; at += 20) {
      int[] words = new int[5];
      for (int i = 0; i < 20; i++) {
        words[i / 4] = words[i / 4] << 8 | (at + i < bytes.length ? bytes[at + i] : random.nextInt(256)) & 255;
      }
      is("feed", war.feed(words[0], words[1], words[2], words[3], words[4]),
          model.feed(words[0], words[1], words[2], words[3], words[4]));
    }
  }

  private int feed(String text) {
    feed(text.chars().toArray());
    return luck(2) ? text.length() + random.nextInt(3) - 1 : text.length();
  }

  private void tellLaw() {
    String text = law();
    int n = feed(text);
    is("law " + text, war.law(n), model.law(n));
  }

  private void tellLand() {
    String text = land();
    int n = feed(text);
    is("land " + text, war.land(n), model.land(n));
  }

  private void tellLines(boolean make) {
    String text = lines();
    int n = feed(text);
    is("lines " + text, make ? war.treaties(n) : war.judged(n), make ? model.treaties(n) : model.judged(n));
  }

  private void begin() {
    int mixed = random.nextInt(70);
    for (int c = 0; c < 12; c++) {
      if (luck(90)) {
        boolean isMixed = c > 1 && luck(mixed);
        int first = isMixed ? random.nextInt(c) : -1;
        int second = isMixed ? random.nextInt(c) : -1;
        tellColour(c, first, second);
      }
    }
    for (int i = 0; i < 40; i++) {
      int c = random.nextInt(12);
      int q = random.nextInt(4);
      int empires = empires();
      is("have", war.have(c, q, empires), model.have(c, q, empires));
    }
    for (int i = 0; i < 40; i++) {
      int field = random.nextInt(64);
      int empire = random.nextInt(7);
      is("owner", war.owner(field % 8, field / 8, empire), model.owner(field % 8, field / 8, empire));
    }
    tellLand();
    tellLaw();
  }

  private void tellColour(int c, int first, int second) {
    is("colour " + c + " " + first + " " + second, war.colour(c, first, second), model.colour(c, first, second));
    told = count(0);
  }

  private void call() {
    int luck = random.nextInt(100);
    if (luck < 4) {
      tellLaw();
    } else if (luck < 7) {
      tellLand();
    } else if (luck < 15) {
      tellLines(luck < 12);
    } else if (luck < 30) {
      callState();
    } else if (luck < 55) {
      callSight();
    } else if (luck < 75) {
      callWorth();
    } else {
      callSigns();
    }
  }

  private void callState() {
    int a = of(12);
    int b = of(12);
    int c = luck(70) ? of(8) + 1 : of(99) + 1;
    int what = luck(50) ? of(3) : of(24);
    int e = empires();
    switch (random.nextInt(11)) {
      case 0: tellColour(of(12), luck(50) ? -1 : a, luck(50) ? -1 : b); break;
      case 1: is("have", war.have(a, b % 5, e), model.have(a, b % 5, e)); break;
      case 2: is("owner", war.owner(a % 9, b % 9, c % 8), model.owner(a % 9, b % 9, c % 8)); break;
      case 3: is("days " + c, war.days(c), model.days(c)); break;
      case 4:
      case 5: is("tried " + c + " " + what, war.tried(c, what), model.tried(c, what)); break;
      case 6: is("treatyIs", war.treatyIs(a, what), model.treatyIs(a, what)); break;
      case 7: is("seed", war.seed(a * 4999), model.seed(a * 4999)); break;
      case 8: is("keep", war.keep(), model.keep()); break;
      case 9: is("undo", war.undo(), model.undo()); break;
      default: check();
    }
  }

  private void check() {
    int n = of(9);
    int[] bytes = new int[32];
    for (int i = 0; i < 8; i++) {
      bytes[4 * i + 3] = luck(95) ? count(300 + i) : random.nextInt(256);
      bytes[4 * i + random.nextInt(3)] = luck(98) ? 0 : 1;
    }
    feed(bytes);
    is("check " + n, war.check(n), model.check(n));
  }

  private void callSight() {
    int e = of(6);
    int f = of(6);
    int c = of(13);
    int q = of(4);
    int a = of(64);
    int b = of(64);
    int what = of(3);
    int set = set(4);
    switch (random.nextInt(7)) {
      case 0: is("sees", war.sees(e, c, q), model.sees(e, c, q)); break;
      case 1: is("appears", war.appears(e, c, q), model.appears(e, c, q)); break;
      case 2: is("child", war.child(e, f, c, q), model.child(e, f, c, q)); break;
      case 3: is("unseen", war.unseen(a % 9, b % 9, c, e, q), model.unseen(a % 9, b % 9, c, e, q)); break;
      case 4: is("way", war.way(a, b, c, e, q, what), model.way(a, b, c, e, q, what)); break;
      case 5: is("painting", war.painting(set, what), model.painting(set, what)); break;
      default: is("ash", war.ash(e, q, what), model.ash(e, q, what));
    }
  }

  private void callWorth() {
    int e = of(6);
    int f = of(6);
    int c = of(12);
    int q = of(4);
    int what = of(3);
    int set = set(5);
    switch (random.nextInt(4)) {
      case 0: is("worth", war.worth(e, q), model.worth(e, q)); break;
      case 1: is("gain", war.gain(e, c, q), model.gain(e, c, q)); break;
      case 2:
        set = luck(90) ? set & told & ~count(1) : set;
        for (int member = 0; member < 12; member++) {
          if ((set >> member & 1) == 1) {
            is("power " + set + " " + member, war.power(set, member, e, q, what), model.power(set, member, e, q, what));
          }
        }
        is("power", war.power(set, c, e, q, what), model.power(set, c, e, q, what));
        break;
      default: is("battle", war.battle(e, f, q, what), model.battle(e, f, q, what));
    }
  }

  private void callSigns() {
    int friends = luck(50) ? 1 << random.nextInt(6) : empires();
    int foes = luck(30) ? 0 : luck(50) ? 1 << random.nextInt(6) : empires() & (luck(95) ? ~friends : -1);
    int n = luck(5) ? of(9) : random.nextInt(3) + 2;
    int q = of(4);
    int what = of(3);
    switch (random.nextInt(3)) {
      case 0:
        is("signals " + n + " " + friends + " " + foes, war.signals(n, friends, foes, q, what),
            model.signals(n, friends, foes, q, what));
        break;
      case 1: parted(); break;
      default: spies();
    }
  }

  private void parted() {
    int m = luck(95) ? 2 + random.nextInt(2) : of(5);
    int what = luck(50) ? of(2) : 10 + of(4);
    int[] bytes = new int[12];
    int most = luck(30) ? 10 : 100;
    for (int i = 0; i < 12; i++) {
      bytes[i] = luck(99) ? random.nextInt(most) : 100;
    }
    feed(luck(98) ? bytes : new int[0]);
    is("parted " + m + " " + what, war.parted(m, what), model.parted(m, what));
  }

  private void spies() {
    int n = luck(95) ? 1 + random.nextInt(3) : of(12);
    int what = of(3);
    int[] bytes = new int[36];
    for (int i = 0; i < 36; i += 3) {
      bytes[i] = luck(99) && told != 0 ? known() : random.nextInt(14);
      bytes[i + 1] = luck(99) ? random.nextInt(4) : 4;
      bytes[i + 2] = luck(99) ? random.nextInt(2) : 2;
    }
    feed(luck(98) ? bytes : new int[0]);
    is("spies " + n + " " + what, war.spies(n, what), model.spies(n, what));
  }

  private int known() {
    int c = random.nextInt(12);
    while ((told >> c & 1) == 0) {
      c = (c + 1) % 12;
    }
    return c;
  }

  private void state() {
    while (calls < LAST_CALLS) {
      int what = luck(10) ? of(8) : luck(10) ? 10 + of(13) : luck(50) ? 100 + of(49) : 200 + of(165);
      int i = luck(90) ? of(Math.max(1, model.count(6))) : of(17);
      int part = of(7);
      is("count " + what, war.count(what), model.count(what));
      is("treatyIs " + i + " " + part, war.treatyIs(i, part), model.treatyIs(i, part));
    }
  }
}
