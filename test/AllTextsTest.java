/**
 * All short texts of a few signs, alone or behind a beginning, held against the Model. A text with a FAULT ahead of its
 * end is not made longer: whatever came behind it, the first FAULT would be the same.
 */
public final class AllTextsTest {
  /** Below the 512 calls that are promised, and what one more text takes. */
  private static final int CALLS = 490;

  private enum Language { LAW, TREATIES, JUDGED, LAND }

  private final Due due = new Due("AllTextsTest");
  private HueWar war;
  private Model model;
  private int calls = CALLS;

  private AllTextsTest() {
  }

  public static void main(String[] args) {
    AllTextsTest test = new AllTextsTest();
    test.laws();
    test.treaties();
    test.lands();
    test.due.end();
  }

  private void laws() {
    all(Language.LAW, "", "vbskecqdmabngo0123456789()[]!&|<>=+-*/%;x@ ", 3);
    all(Language.LAW, "", "vs1e()[]!&|<+*;", 7);
    all(Language.LAW, "v", "(1[]+=)", 9);
    all(Language.LAW, "s(1", "(2[]!|=)", 8);
    all(Language.LAW, "v[[[[[", "vs1()[]!&<", 7);
    all(Language.LAW, "s(!(!(", "vs1()[]!&<", 7);
    all(Language.LAW, "k(!!!!!e=c", "=)!&(;k", 6);
    all(Language.LAW, "b1234", "56[(+a;", 4);
    all(Language.LAW, "s(a=b);".repeat(15), "vbskx1=();", 9);
  }

  private void treaties() {
    all(Language.TREATIES, "", "0123456789@>+,/:x ", 5);
    all(Language.JUDGED, "", "01269@>+,", 7);
    all(Language.JUDGED, "1@", "01234>+", 6);
    all(Language.TREATIES, "0@013", "0123456789>+,@", 4);
    all(Language.TREATIES, "2@2+01,", "0129@>+,", 7);
    all(Language.JUDGED, "0@0>01,".repeat(7), "019@>,", 10);
  }

  private void lands() {
    all(Language.LAND, "", "0123456789abcdl.m/`A", 4);
    all(Language.LAND, "a7./8c/", "1278ac./", 6);
    all(Language.LAND, "8./".repeat(7), "138acb./09", 6);
  }

  private void all(Language language, String begun, String signs, int more) {
    for (int i = 0; i < signs.length(); i++) {
      String text = begun + signs.charAt(i);
      int answer = ask(language, text);
      boolean isOpen = answer >= 0 || -answer % 1000 >= text.length();
      if (isOpen && more > 1) {
        all(language, text, signs, more - 1);
      }
    }
  }

  private int ask(Language language, String text) {
    if (calls + (text.length() + 19) / 20 + 2 > CALLS) {
      begin();
    }
    feed(text);
    int n = text.length();
    int got = answer(language, n);
    int want = language == Language.LAW ? model.law(n) : language == Language.LAND ? model.land(n)
        : language == Language.JUDGED ? model.judged(n) : model.treaties(n);
    due.is(language + " " + text, got, want);
    due.is(language + " " + text + ", bytes of the tape then", war.count(3), model.count(3));
    calls += 2;
    return want;
  }

  private int answer(Language language, int n) {
    switch (language) {
      case LAW: return war.law(n);
      case LAND: return war.land(n);
      case JUDGED: return war.judged(n);
      default: return war.treaties(n);
    }
  }

  /** A war, and a Model of it: COLOURS 0 and 2 are plain, 3 is mixed of these. */
  private void begin() {
    war = Due.plain(0, 2);
    war.colour(3, 0, 2);
    model = new Model();
    model.colour(0, -1, -1);
    model.colour(2, -1, -1);
    model.colour(3, 0, 2);
    for (int quarter = 0; quarter < 3; quarter++) {
      war.have(0, quarter, 1);
      model.have(0, quarter, 1);
      war.have(2, quarter, 3);
      model.have(2, quarter, 3);
    }
    calls = 9;
  }

  private void feed(String text) {
    for (int at = 0; at < text.length(); at += 20) {
      int[] words = new int[5];
      for (int i = 0; i < 20; i++) {
        words[i / 4] = words[i / 4] << 8 | (at + i < text.length() ? text.charAt(at + i) : '9');
      }
      due.is("feed", war.feed(words[0], words[1], words[2], words[3], words[4]),
          model.feed(words[0], words[1], words[2], words[3], words[4]));
      calls++;
    }
  }
}
