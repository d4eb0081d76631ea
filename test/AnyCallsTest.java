import java.util.Random;

/**
 * Calls with any numbers in any state: none throws, and what is refused or only asks changes nothing but the tape. A war
 * that is asked all of them answers, behind them, like another one that was asked those alone that changed something.
 */
public final class AnyCallsTest {
  private static final int RUNS = 1500;
  /** Of 5 calls each at most, so that with what is compared there are fewer than 512. */
  private static final int CALLS = 42;
  private static final int[] EDGES = {Integer.MIN_VALUE, Integer.MIN_VALUE + 1, Integer.MAX_VALUE, -1000000000, -2, -1, 31, 32,
      33, 63, 64, 65, 99, 100, 240, 241, 255, 256, 4095, 4096, 65535, 65536};
  private static final String SIGNS = "vbsk();&|!<>=+-*/%[]ecqdmabngo0123456789.@,/";

  private final Random random;
  private final HueWar war = told();
  private final HueWar twin = told();
  private final int[] numbers = new int[6];
  private final int[] words = new int[10];
  private int feeds = 0;

  private AnyCallsTest(int run) {
    random = new Random(run);
  }

  private static HueWar told() {
    HueWar war = Due.mixed();
    for (int c = 0; c < 4; c++) {
      for (int q = 0; q < 4; q++) {
        war.have(c, q, 1 << (c + q) % 3);
      }
    }
    return war;
  }

  public static void main(String[] args) {
    Due due = new Due("AnyCallsTest");
    for (int run = 0; run < RUNS; run++) {
      AnyCallsTest test = new AnyCallsTest(run);
      for (int i = 0; i < CALLS; i++) {
        test.call();
      }
      test.compare(due, "run " + run);
    }
    due.end();
  }

  private void call() {
    int which = random.nextInt(28);
    for (int i = 0; i < numbers.length; i++) {
      numbers[i] = any();
    }
    feeds = 0;
    if (which > 21) {
      text(which);
      war.check(0);
    }
    long answer = call(war, which);
    boolean isAsked = which > 10 && which < 22 || which > 24;
    if (!isAsked && (answer > 0 || which == 5 || which == 22 && answer == 0)) {
      twin.check(0);
      call(twin, which);
    }
  }

  private int any() {
    int luck = random.nextInt(10);
    if (luck == 0) {
      return EDGES[random.nextInt(EDGES.length)];
    }
    return luck == 1 ? random.nextInt(260) - 2 : luck == 2 ? random.nextInt() : luck == 3 ? -1 : random.nextInt(6);
  }

  private int word() {
    int word = 0;
    for (int i = 0; i < 4; i++) {
      word = word << 8 | (random.nextInt(9) > 0 ? SIGNS.charAt(random.nextInt(SIGNS.length())) : random.nextInt(256));
    }
    return random.nextInt(3) > 0 ? word : word & 0x01010101;
  }

  /** Any signs are fed, or a text that often has no FAULT, and the first number is as many bytes or any. */
  private void text(int which) {
    feeds = 1 + random.nextInt(2);
    for (int i = 0; i < words.length; i++) {
      words[i] = word();
    }
    String[] lands = {"8./8./8./8./8./8a/8b/8.", "a.b.c.d./8./8./8./8./8./8e/8f"};
    String[] laws = {"v9/d(1=1);s(a=1|b/c=1);k(e<g)", "b[d*77777%10](!(o<2)&1=1)", "v99999*[e-3]/[c-3](1=1)",
        "s((((((a=b))))))", "v9(1=1);b5(1=1)", "s(a+b>0)"};
    String[] lines = {"0@0>01,0@123+12,2@2+23,5@3>45", "0@0>01,0@1+01,0@2>02", "1@0>10,1@0>01,2@0+13"};
    String[] texts = which == 22 ? lands : which == 23 ? laws : which == 24 || which == 25 ? lines : null;
    if (texts == null || random.nextInt(4) == 0) {
      return;
    }
    String text = texts[random.nextInt(texts.length)];
    feeds = 2;
    numbers[0] = text.length();
    for (int i = 0; i < 40; i++) {
      int sign = i < text.length() ? text.charAt(i) : 0;
      words[i / 4] = i % 4 == 0 ? sign << 24 : words[i / 4] | sign << 24 - i % 4 * 8;
    }
  }

  private static long number(boolean answer) {
    return answer ? 1 : 0;
  }

  private long call(HueWar on, int which) {
    for (int i = 0; i < feeds; i++) {
      on.feed(words[5 * i], words[5 * i + 1], words[5 * i + 2], words[5 * i + 3], words[5 * i + 4]);
    }
    int a = numbers[0];
    int b = numbers[1];
    int c = numbers[2];
    int d = numbers[3];
    int e = numbers[4];
    int f = numbers[5];
    switch (which) {
      case 0: return number(on.colour(a, b, c));
      case 1: return number(on.have(a, b, c));
      case 2: return number(on.owner(a, b, c));
      case 3: return number(on.seed(a));
      case 4: return number(on.undo());
      case 5: return on.keep();
      case 6: return on.days(a) >= 0 ? 1 : -1;
      case 7:
      case 8: return number(on.have(a & 3, b & 3, c & 63));
      case 9:
      case 10: return number(on.owner(a & 7, b & 7, c % 7));
      case 11: return on.tried(a, b);
      case 12: return on.treatyIs(a, b);
      case 13: return on.sees(a, b, c) + on.appears(b, c, d);
      case 14: return on.child(a, b, c, d);
      case 15: return on.unseen(a, b, c, d, e);
      case 16: return on.way(a, b, c, d, e, f);
      case 17: return on.worth(a, b) + on.gain(b, c, d);
      case 18: return on.power(a, b, c, d, e);
      case 19: return on.signals(a, b, c, d, e);
      case 20: return on.battle(a, b, c, d);
      case 21: return on.painting(a, b) + on.ash(b, c, d);
      case 22: return on.land(a);
      case 23: return on.law(a);
      case 24: return on.treaties(a);
      case 25: return on.judged(a);
      case 26: return on.parted(a, b) + on.spies(b, c);
      default: return on.check(a);
    }
  }

  private void compare(Due due, String run) {
    war.check(0);
    twin.check(0);
    for (int what = 0; what < 364; what++) {
      boolean isAsked = what < 22 || what >= 100 && what < 148 || what >= 200 && what < 264 || what >= 300;
      if (isAsked) {
        due.is(run + ": count " + what, war.count(what), twin.count(what));
      }
    }
    for (int i = 0; i < 6; i++) {
      for (int what = 0; what < 6; what++) {
        due.is(run + ": treatyIs " + i + " " + what, war.treatyIs(i, what), twin.treatyIs(i, what));
      }
      due.is(run + ": sees " + i, war.sees(i, 2, 0), twin.sees(i, 2, 0));
      due.is(run + ": worth " + i, war.worth(i, 0), twin.worth(i, 0));
      due.is(run + ": child " + i, war.child(i, 0, 0, 0), twin.child(i, 0, 0, 0));
    }
    due.is(run + ": tried", war.tried(9, 0), twin.tried(9, 0));
    due.is(run + ": undo", war.undo(), twin.undo());
    for (int what = 100; what < 108; what++) {
      due.is(run + ": count " + what, war.count(what), twin.count(what));
    }
  }
}
