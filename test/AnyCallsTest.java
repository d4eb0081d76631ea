import java.util.Arrays;
import java.util.Random;

/** Calls with any numbers in any state: none throws, and what is refused or only asks changes nothing but the tape. */
public final class AnyCallsTest {
  private static final int RUNS = 200;
  private static final int CALLS = 512;
  private static final int[] EDGES = {Integer.MIN_VALUE, Integer.MIN_VALUE + 1, Integer.MAX_VALUE, -1000000000, -2, -1, 31, 32,
      33, 63, 64, 65, 99, 100, 240, 241, 255, 256, 4095, 4096, 65535, 65536};
  private static final String SIGNS = "vbsk();&|!<>=+-*/%[]ecqdmabngo0123456789.@,/";

  private final Random random;
  private final HueWar war = new HueWar();

  private AnyCallsTest(int run) {
    random = new Random(run);
  }

  public static void main(String[] args) {
    Due due = new Due("AnyCallsTest");
    for (int run = 0; run < RUNS; run++) {
      AnyCallsTest test = new AnyCallsTest(run);
      for (int i = 0; i < CALLS; i++) {
        int[] before = test.state();
        int which = test.random.nextInt(28);
        long answer = test.call(which);
        boolean isSame = Arrays.equals(before, test.state());
        boolean mayChange = which < 7 && answer > 0 || which == 7 || which == 8;
        due.is("run " + run + ", call " + i + " of kind " + which + ": nothing is changed", isSame || mayChange, true);
      }
    }
    due.end();
  }

  private int any() {
    int luck = random.nextInt(10);
    if (luck == 0) {
      return EDGES[random.nextInt(EDGES.length)];
    }
    return luck == 1 ? random.nextInt(260) - 2 : luck == 2 ? random.nextInt() : random.nextInt(6);
  }

  private int word() {
    int word = 0;
    for (int i = 0; i < 4; i++) {
      word = word << 8 | (random.nextInt(9) > 0 ? SIGNS.charAt(random.nextInt(SIGNS.length())) : random.nextInt(256));
    }
    return random.nextInt(3) > 0 ? word : word & 0x01010101;
  }

  /** Without the tape. */
  private int[] state() {
    int[] state = new int[400 + 16 * 6];
    for (int what = 0; what < 400; what++) {
      state[what] = what == 3 ? 0 : war.count(what);
    }
    for (int i = 0; i < 16; i++) {
      for (int what = 0; what < 6; what++) {
        state[400 + 6 * i + what] = war.treatyIs(i, what);
      }
    }
    return state;
  }

  private static long number(boolean answer) {
    return answer ? 1 : 0;
  }

  private long call(int which) {
    switch (which) {
      case 0: return number(war.colour(any(), random.nextBoolean() ? -1 : any(), random.nextBoolean() ? -1 : any()));
      case 1: return number(war.have(any(), any(), any()));
      case 2: return number(war.owner(any(), any(), any()));
      case 3: return number(war.seed(any()));
      case 4: return war.treaties(text());
      case 5: return number(war.undo());
      case 6: return war.law(text());
      case 7: war.days(any()); return 0;
      case 8: war.land(text()); return 0;
      case 9: return war.judged(text());
      case 10: return war.keep();
      case 11: return war.tried(any(), any());
      case 12: return war.treatyIs(any(), any());
      case 13: return war.sees(any(), any(), any());
      case 14: return war.appears(any(), any(), any());
      case 15: return war.child(any(), any(), any(), any());
      case 16: return war.unseen(any(), any(), any(), any(), any());
      case 17: return war.way(any(), any(), any(), any(), any(), any());
      case 18: return war.worth(any(), any());
      case 19: return war.gain(any(), any(), any());
      case 20: return war.power(any(), any(), any(), any(), any());
      case 21: return war.signals(any(), any(), any(), any(), any());
      case 22: feed(); return war.parted(any(), any());
      case 23: return war.battle(any(), any(), any(), any());
      case 24: feed(); return war.spies(any(), any());
      case 25: return war.painting(any(), any());
      case 26: return war.ash(any(), any(), any());
      default: feed(); return war.check(any());
    }
  }

  private void feed() {
    war.feed(word(), word(), word(), word(), word());
  }

  /** How many bytes of a text of any signs are read, or of one that often has no FAULT. */
  private int text() {
    if (random.nextBoolean()) {
      feed();
      return any();
    }
    war.check(0);
    String[] texts = {"v9/d(1=1);s(a=1|b/c=1);k(e<g)", "b[d*77777%10](!(o<2)&1=1)", "0@0>01,1@123+12,2@2+23,5@3>45",
        "a.b.c.d./8./8./8./8./8./8e/8f", "v99999*99999*[e-3]/[c-3]%[q-1](1=1)", "s(" + "(".repeat(5) + "a=b" + ")".repeat(5) + ")"};
    String text = texts[random.nextInt(texts.length)];
    Due.feed(war, text);
    return text.length();
  }
}
