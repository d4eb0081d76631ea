import java.util.Arrays;
import java.util.function.Consumer;

/**
 * "A call that is refused (NONE, false) changes nothing but the tape, where it is told": two wars of the same calls, one
 * with refused calls among them, answer alike then. And what is told first where several answers fit.
 */
public final class RefusedTest {
  private static final int NO_GAIN = -1000000000;
  private static final int MIN = Integer.MIN_VALUE;
  private static final int MAX = Integer.MAX_VALUE;
  private static final int[] WRONG = {-1, -2, 64, 1000, MIN, MAX};

  private final Due due = new Due("RefusedTest");
  private HueWar war;

  public static void main(String[] args) {
    new RefusedTest().all();
  }

  private void all() {
    stays("colour", this::colour);
    stays("have", this::have);
    stays("owner", this::owner);
    stays("feed", this::feed);
    stays("law", this::law);
    stays("a FAULT of law", this::faultOfLaw);
    stays("land", this::land);
    stays("a FAULT of land", this::faultOfLand);
    stays("treaties", this::treaties);
    stays("a FAULT of treaties", this::faultOfTreaties);
    stays("LINES that can't be", this::linesThatCanNotBe);
    stays("judged", this::judged);
    stays("days", this::days);
    stays("tried", this::tried);
    stays("treatyIs", this::treatyIs);
    stays("sight", this::sight);
    stays("ways", this::ways);
    stays("worth", this::worth);
    stays("power", this::power);
    stays("signals", this::signals);
    stays("parted", this::parted);
    stays("battle", this::battle);
    stays("spies", this::spies);
    stays("painting", this::painting);
    stays("ash", this::ash);
    stays("seed", this::seed);
    stays("check", this::check);
    stays("count", this::count);
    stays("what is only asked", this::asked);
    undoOfNone();
    tapesThatStay();
    noneAheadOfAFault();
    noneAheadOfNothing();
    faultAheadOfNothing();
    memoryOfItsOwn();
    the512thCall();
    due.end();
  }

  private void is(String call, long got, long want) {
    due.is(call, got, want);
  }

  private void is(String call, boolean got, boolean want) {
    due.is(call, got, want);
  }

  /** COLOURS, EMPIRES that HAVE them, OWNERS, THE LAND, THE LAW, TREATIES, a DAY, what is KEPT, a tape: none as at first. */
  private static HueWar world() {
    HueWar war = Due.mixed();
    for (int q = 0; q < 4; q++) {
      war.have(0, q, 11 + 7 * q);
      war.have(1, q, 21 >> q);
      war.have(3, q, 40 + q);
    }
    for (int x = 0; x < 8; x++) {
      war.owner(x, 0, x % 7);
      war.owner(7 - x, 5, x % 6);
    }
    Due.land(war, Due.land("abcdeabc", "4a4d", "e6.b"));
    Due.law(war, "s(a=1|b=1&e<3);k(a=b);v9+c-d(1=1);b3(g>2);b5(1=1)");
    Due.treaties(war, "0@0>05,1@0+01,3@12+54");
    war.days(1);
    war.keep();
    Due.treaties(war, "0@1>10");
    war.days(1);
    war.owner(0, 0, 4);
    war.have(3, 3, 9);
    Due.feed(war, 1, 1, 1, 1, 2, 2, 2, 2, 3, 3);
    return war;
  }

  /** What it answers to so many calls that, with those of world(), they are fewer than 512. */
  private static int[] whole(HueWar war) {
    int[] whole = new int[400];
    int at = 0;
    for (int what = 0; what < 7; what++) {
      whole[at++] = war.count(what);
    }
    for (int c = 0; c < 12; c++) {
      whole[at++] = war.count(10 + c);
    }
    for (int place = 0; place < 16; place++) {
      whole[at++] = war.count(100 + place);
      whole[at++] = war.count(300 + place);
      whole[at++] = war.count(340 + place);
    }
    for (int field = 0; field < 24; field++) {
      whole[at++] = war.count(200 + field);
    }
    for (int i = 0; i < 5; i++) {
      for (int what = 0; what < 6; what++) {
        whole[at++] = war.treatyIs(i, what);
      }
    }
    for (int e = 0; e < 6; e++) {
      whole[at++] = war.sees(e, 4, e % 4);
      whole[at++] = war.appears(e, 2, 1);
      whole[at++] = war.child(e, 5 - e, 1, 2);
      whole[at++] = war.worth(e, 0);
      whole[at++] = war.tried(9, e < 3 ? e : 7 + e);
    }
    whole[at++] = war.parted(2, 0);
    whole[at++] = war.days(3);
    whole[at++] = war.undo() ? 1 : 0;
    whole[at++] = war.count(4);
    whole[at++] = war.count(5);
    whole[at++] = war.count(6);
    for (int place = 0; place < 16; place++) {
      whole[at++] = war.count(100 + place);
      whole[at++] = war.count(300 + place);
    }
    for (int i = 0; i < 4; i++) {
      whole[at++] = war.treatyIs(i, 3);
    }
    return whole;
  }

  private void stays(String name, Consumer<HueWar> refused) {
    HueWar same = world();
    war = world();
    refused.accept(war);
    is("nothing is changed by " + name, Arrays.equals(whole(war), whole(same)), true);
  }

  /** What empties the tape is followed by the feed that world() ended with. */
  private void feedAgain() {
    is("empty then", war.count(3), 0);
    Due.feed(war, 1, 1, 1, 1, 2, 2, 2, 2, 3, 3);
  }

  private void colour(HueWar war) {
    int[][] wrong = {{-1, -1, -1}, {12, -1, -1}, {12, 0, 1}, {MIN, 0, 1}, {MAX, 0, 1}, {0, -1, -1}, {3, 0, 1}, {2, 0, 1},
        {2, 1, 0}, {2, -1, -1}, {5, 0, 0}, {5, 0, -1}, {5, -1, 0}, {5, 0, 5}, {5, 6, 0}, {5, -2, -2}, {11, 0, 10}, {11, 12, 0}};
    for (int[] one : wrong) {
      is("colour " + Arrays.toString(one), war.colour(one[0], one[1], one[2]), false);
    }
  }

  private void have(HueWar war) {
    for (int wrong : WRONG) {
      is("have", war.have(wrong, 0, 1), false);
      is("have", war.have(0, wrong, 1), false);
      is("have", war.have(0, 0, wrong), false);
    }
    is("a mixed one", war.have(2, 0, 1), false);
    is("an untold one", war.have(5, 0, 1), false);
    is("ash", war.have(12, 0, 1), false);
  }

  private void owner(HueWar war) {
    for (int wrong : WRONG) {
      is("owner", war.owner(wrong, 0, 1), false);
      is("owner", war.owner(0, wrong, 1), false);
      is("owner", war.owner(0, 0, wrong), false);
    }
    is("owner", war.owner(8, 0, 1), false);
    is("owner", war.owner(0, 8, 1), false);
    is("owner", war.owner(0, 0, 7), false);
  }

  private void feed(HueWar war) {
    for (int i = 0; i < 12; i++) {
      war.feed(0, 0, 0, 0, 0);
    }
    is("full", war.feed(5, 5, 5, 5, 5), -1);
    is("full", war.count(3), 260);
    war.check(0);
    feedAgain();
  }

  private void law(HueWar war) {
    for (int n : new int[] {0, -1, 21, 240, 241, MIN, MAX}) {
      is("law " + n, war.law(n), -1);
    }
  }

  private void faultOfLaw(HueWar war) {
    war.check(0);
    for (String text : new String[] {"s(1=1", "k(1=1);", "v9(1=1);x", "b123456(1=1)", "v[[[[[[[1"}) {
      is("law " + text, Due.law(war, text) <= -1000, true);
    }
    feedAgain();
  }

  private void land(HueWar war) {
    for (int n : new int[] {0, -1, 21, 160, 161, MIN, MAX}) {
      is("land " + n, war.land(n), -1);
    }
  }

  private void faultOfLand(HueWar war) {
    war.check(0);
    for (String text : new String[] {"8b", "8b/8b/8b/8b/8b/8b/8b/7b", "8b/8b/8b/8b/8b/8b/8b/8b/", "8b/8b/8b/8b/8b/8b/8b/8f", "8b9"}) {
      is("land " + text, Due.land(war, text) <= -1000, true);
    }
    feedAgain();
  }

  private void treaties(HueWar war) {
    for (int n : new int[] {0, -1, 21, 120, 121, MIN, MAX}) {
      is("treaties " + n, war.treaties(n), -1);
    }
  }

  private void faultOfTreaties(HueWar war) {
    war.check(0);
    for (String text : new String[] {"1@0+12,1@0+1", "1@0+12,", "1@0+12,12@0+12", "1@0+12,1@0+11", "1@0+126", "1@0+12,1@00+12"}) {
      is("treaties " + text, Due.treaties(war, text) <= -1000, true);
    }
    feedAgain();
  }

  private void linesThatCanNotBe(HueWar war) {
    war.check(0);
    is("mixed, untold, not had, had", Due.treaties(war, "2@0>01,5@0>01,3@0>01,0@3+01"), 0);
    feedAgain();
  }

  private void judged(HueWar war) {
    for (int n : new int[] {0, -1, 21, 120, 121, MIN, MAX}) {
      is("judged " + n, war.judged(n), -1);
    }
    war.check(0);
    is("two can", Due.judged(war, "1@0+45,1@0>53"), 2);
    is("a FAULT", Due.judged(war, "1@0+45,1@0>5"), -1012);
    feedAgain();
  }

  private void days(HueWar war) {
    for (int n : new int[] {0, -1, 100, 101, MIN, MAX}) {
      is("days " + n, war.days(n), -1);
    }
  }

  private void tried(HueWar war) {
    for (int n : new int[] {0, -1, 100, 101, MIN, MAX}) {
      is("tried " + n, war.tried(n, 0), -1);
    }
    for (int what : new int[] {-1, 3, 9, 12, 15, 22, MIN, MAX}) {
      is("tried what " + what, war.tried(99, what), -1);
    }
    for (int what : new int[] {0, 1, 2, 10, 11, 13}) {
      is("tried", war.tried(99, what) >= -2, true);
    }
  }

  private void treatyIs(HueWar war) {
    for (int wrong : new int[] {-1, 16, MIN, MAX}) {
      is("treatyIs", war.treatyIs(wrong, 0), -1);
      is("treatyIs", war.treatyIs(0, wrong), -1);
    }
  }

  private void sight(HueWar war) {
    for (int wrong : WRONG) {
      is("sees", war.sees(wrong, 0, 0) + war.sees(0, wrong, 0) + war.sees(0, 0, wrong), -3);
      is("appears", war.appears(wrong, 0, 0) + war.appears(0, wrong, 0) + war.appears(0, 0, wrong), -3);
      is("child", war.child(wrong, 0, 0, 0) + war.child(0, wrong, 0, 0) + war.child(0, 0, wrong, 0) + war.child(0, 0, 0, wrong), -4);
    }
  }

  private void ways(HueWar war) {
    for (int wrong : WRONG) {
      is("unseen", war.unseen(wrong, 0, 0, 0, 0) + war.unseen(0, wrong, 0, 0, 0) + war.unseen(0, 0, wrong, 0, 0)
          + war.unseen(0, 0, 0, wrong, 0) + war.unseen(0, 0, 0, 0, wrong), -5);
      is("way", war.way(wrong, 0, 0, 0, 0, 0) + war.way(0, wrong, 0, 0, 0, 0) + war.way(0, 0, wrong, 0, 0, 0)
          + war.way(0, 0, 0, wrong, 0, 0) + war.way(0, 0, 0, 0, wrong, 0) + war.way(0, 0, 0, 0, 0, wrong), -6);
    }
  }

  private void worth(HueWar war) {
    for (int wrong : WRONG) {
      is("worth", war.worth(wrong, 0) + war.worth(0, wrong), -2);
      is("gain", war.gain(wrong, 0, 0), NO_GAIN);
      is("gain", war.gain(2, wrong, 0), NO_GAIN);
      is("gain", war.gain(2, 0, wrong), NO_GAIN);
    }
    is("it HAS it", war.gain(1, 0, 0), NO_GAIN);
    is("a mixed one", war.gain(2, 2, 0), NO_GAIN);
  }

  private void power(HueWar war) {
    for (int wrong : WRONG) {
      is("power", war.power(wrong, 0, 0, 0, 0), NO_GAIN);
      is("power", war.power(1, wrong, 0, 0, 0), NO_GAIN);
      is("power", war.power(1, 0, wrong, 0, 0), NO_GAIN);
      is("power", war.power(1, 0, 0, wrong, 0), NO_GAIN);
      is("power", war.power(1, 0, 0, 0, wrong), NO_GAIN);
    }
  }

  private void signals(HueWar war) {
    for (int wrong : WRONG) {
      is("signals", war.signals(wrong, 1, 2, 0, 0) + war.signals(2, wrong, 2, 0, 0) + war.signals(2, 1, wrong, 0, 0)
          + war.signals(2, 1, 2, wrong, 0) + war.signals(2, 1, 2, 0, wrong), -5);
    }
  }

  private void parted(HueWar war) {
    for (int wrong : WRONG) {
      is("parted", war.parted(wrong, 0) + war.parted(2, wrong), -2);
    }
    war.check(0);
    is("an empty tape", war.parted(2, 0), -1);
    is("100", Due.parted(war, 0, 1, 1, 1, 1, 1, 1, 1, 100), -2);
    feedAgain();
  }

  private void battle(HueWar war) {
    for (int wrong : WRONG) {
      is("battle", war.battle(wrong, 1, 0, 0) + war.battle(0, wrong, 0, 0) + war.battle(0, 1, wrong, 0) + war.battle(0, 1, 0, wrong), -4);
    }
    is("one twice", war.battle(1, 1, 0, 0), -1);
  }

  private void spies(HueWar war) {
    for (int wrong : WRONG) {
      is("spies", war.spies(wrong, 0) + war.spies(1, wrong), -2);
    }
    is("not so many", war.spies(7, 0), -1);
    war.check(0);
    is("no such one", Due.spies(war, 0, 5, 0, 0), -2);
    feedAgain();
  }

  private void painting(HueWar war) {
    for (int wrong : WRONG) {
      is("painting", war.painting(wrong, 0) + war.painting(1, wrong), -2);
    }
  }

  private void ash(HueWar war) {
    for (int wrong : WRONG) {
      is("ash", war.ash(wrong, 0, 0) + war.ash(0, wrong, 0) + war.ash(0, 0, wrong), -3);
    }
  }

  private void seed(HueWar war) {
    for (int wrong : new int[] {-1, 65536, MIN, MAX}) {
      is("seed", war.seed(wrong), false);
    }
  }

  private void check(HueWar war) {
    for (int wrong : new int[] {-1, 6, 8, 9, MIN, MAX}) {
      is("check", war.check(wrong), -2);
    }
  }

  private void count(HueWar war) {
    for (int wrong : new int[] {-1, 7, 22, 148, 264, 364, MIN, MAX}) {
      is("count", war.count(wrong), -1);
    }
  }

  /** Calls that are not refused and yet change nothing but the tape. */
  private void asked(HueWar war) {
    war.check(0);
    for (int e = 0; e < 6; e++) {
      war.gain(e, 0, 0);
      war.gain(e, 1, 2);
      war.power(11, 3, e, 1, 0);
      war.battle(e, (e + 1) % 6, 0, 0);
      war.way(0, 63, 4, e, 0, 2);
      war.signals(2, 1 << e, 63 & ~(1 << e), 0, 0);
      war.ash(e, 3, 2);
      war.painting(1 << e & 31, 1);
      Due.spies(war, 1, 4, 0, 1, 3, 3, 0);
      Due.parted(war, 10, e, 1, 2, 3, 4, 5, 6, 7);
    }
    feedAgain();
  }

  /** Promise 29: "false: none was KEPT". */
  private void undoOfNone() {
    HueWar never = Due.plain(0);
    never.have(0, 0, 5);
    never.owner(1, 1, 2);
    never.seed(77);
    never.days(9);
    is("none was KEPT", never.undo(), false);
    is("what they HAVE", never.count(100), 5);
    is("OWNER", never.count(309), 2);
    is("X", never.count(4), 77);
    is("THE DAY", never.count(5), 9);
  }

  /** "(the tape stays)": its bytes, too, are those of before. */
  private void tapesThatStay() {
    HueWar other = Due.plain(0);
    other.have(0, 0, 1);
    Due.feed(other, "s(1=1);k(1=1);s(1=1)");
    is("law", other.law(21), -1);
    is("land", other.land(21), -1);
    is("treaties", other.treaties(21), -1);
    is("judged", other.judged(21), -1);
    is("parted", other.parted(4, 0), -1);
    is("parted", other.parted(2, 2), -1);
    is("spies", other.spies(7, 0), -1);
    is("spies", other.spies(1, 3), -1);
    is("check", other.check(6), -2);
    is("check", other.check(9), -2);
    is("the law that was fed", other.law(13), 2);
    Due.feed(other, "0@0>01");
    is("law", other.law(21), -1);
    is("the LINE that was fed", other.treaties(6), 1);
  }

  /** "NONE (or what is told in its place) is told first, then a FAULT". */
  private void noneAheadOfAFault() {
    HueWar other = new HueWar();
    is("law of nothing", other.law(0), -1);
    Due.feed(other, "xxxxxxxxxxxxxxxxxxxx");
    for (int n : new int[] {0, 21, 241}) {
      is("law", other.law(n), -1);
      is("land", other.land(n), -1);
      is("treaties", other.treaties(n), -1);
      is("judged", other.judged(n), -1);
    }
    is("then a FAULT", other.law(20), -1000);
    Due.feed(other, "x");
    is("then a FAULT", other.land(20), -1000);
    Due.feed(other, "x");
    is("then a FAULT", other.treaties(20), -1000);
    Due.feed(other, "x");
    is("then a FAULT", other.judged(20), -1000);
  }

  /** "NONE .. is told first, .. then -2". */
  private void noneAheadOfNothing() {
    HueWar other = Due.plain(0);
    Due.feed(other, 255, 255, 255, 255, 255, 255, 255, 255, 255, 255, 255, 255);
    is("no m", other.parted(4, 0), -1);
    is("no what", other.parted(2, 2), -1);
    is("no n", other.spies(0, 0), -1);
    is("no what", other.spies(1, 3), -1);
    is("not so many", other.spies(7, 0), -1);
    is("no n", other.check(9), -2);
    is("the tape stays", other.count(3), 20);
    is("-2 then", other.parted(2, 0), -2);
    is("not so many", other.parted(2, 0), -1);
    is("no n", other.tried(0, 1), -1);
    is("-2 then", other.tried(1, 1), -2);
    is("no n", other.tried(100, 2), -1);
    is("-2 then", other.tried(99, 2), -2);
    is("one twice", other.battle(0, 0, 0, 1), -1);
    is("-2 then", other.battle(0, 1, 0, 1), -2);
    is("no QUARTER", other.battle(0, 1, 4, 2), -1);
    is("-2 then", other.battle(0, 1, 3, 2), -2);
    is("not told", other.painting(2, 1), -1);
    is("-2 then", other.painting(1, 1), -2);
    is("no n", other.signals(7, 1, 0, 0, 1), -1);
    is("no friends", other.signals(2, 0, 0, 0, 1), -1);
    is("both", other.signals(2, 1, 1, 0, 1), -1);
    is("-2 then", other.signals(2, 1, 0, 0, 1), -2);
    other.have(0, 0, 1);
    Due.land(other, Due.land("a7."));
    is("no uniform", other.way(0, 1, 1, 0, 0, 0), -1);
    is("-2 then", other.way(0, 1, 0, 0, 0, 0), -2);
  }

  /** A FAULT of a LINE that could not be anyway; a tape that is too short for a TEXT without FAULTS. */
  private void faultAheadOfNothing() {
    HueWar other = new HueWar();
    is("none can be, and a FAULT", Due.judged(other, "0@0>01,0@0>0"), -1012);
    is("none can be, and a FAULT", Due.treaties(other, "0@0>01,0@0>0"), -1012);
    is("none can be", Due.judged(other, "0@0>01,0@0>02"), 0);
    is("none can be", Due.treaties(other, "0@0>01,0@0>02"), 0);
  }

  /** "All memory is the war's own". */
  private void memoryOfItsOwn() {
    HueWar first = world();
    HueWar second = new HueWar();
    int[] counts = {0, 0, 0, 0, 1, 0, 0};
    for (int what = 0; what < counts.length; what++) {
      is("a new war beside another one", second.count(what), counts[what]);
    }
    is("nothing is KEPT", second.undo(), false);
    second.colour(0, -1, -1);
    second.have(0, 0, 63);
    Due.law(second, "s(1=2)");
    Due.land(second, Due.land("8a"));
    second.owner(0, 0, 1);
    second.seed(9);
    second.keep();
    second.days(9);
    Due.feed(second, 9);
    is("the first one is as it was", Arrays.equals(whole(first), whole(world())), true);
    is("the second one is as it was", second.count(5), 9);
  }

  /** "An object is used for at most 512 calls after it has been made". */
  private void the512thCall() {
    HueWar other = Due.plain(0);
    for (int call = 2; call <= 511; call++) {
      other.have(0, call % 4, call % 64);
    }
    is("511", other.count(103), 63);
    HueWar last = Due.plain(0);
    for (int call = 2; call <= 511; call++) {
      last.days(99);
    }
    is("DAY 9999", last.count(5), 9999);
  }
}
