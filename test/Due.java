import java.nio.charset.StandardCharsets;

/** Holds answers against those that are due, and brings texts and bytes onto a war's tape. */
final class Due {
  private final String name;
  private int asked = 0;
  private int wrong = 0;

  Due(String name) {
    this.name = name;
  }

  void is(String call, long got, long want) {
    asked++;
    if (got != want) {
      wrong++;
      System.out.println(name + ": " + call + " answered " + got + ", due is " + want);
    }
  }

  void is(String call, boolean got, boolean want) {
    is(call, got ? 1L : 0L, want ? 1L : 0L);
  }

  void end() {
    System.out.println(name + ": " + asked + " answers, " + wrong + " of them not as due");
    if (wrong != 0) {
      System.exit(1);
    }
  }

  /** A new war with these plain COLOURS. */
  static HueWar plain(int... colours) {
    HueWar war = new HueWar();
    for (int c : colours) {
      war.colour(c, HueWar.NONE, HueWar.NONE);
    }
    return war;
  }

  /** A new war: plain COLOURS 0, 1, 3; 2 is mixed of 0 and 1, 4 of 2 and 3. */
  static HueWar mixed() {
    HueWar war = plain(0, 1, 3);
    war.colour(2, 0, 1);
    war.colour(4, 2, 3);
    return war;
  }

  /** Twenty bytes a call; what is left over is 0. */
  static void feed(HueWar war, int... bytes) {
    for (int at = 0; at < bytes.length; at += 20) {
      int[] words = new int[5];
      for (int i = 0; i < 20; i++) {
        int b = at + i < bytes.length ? bytes[at + i] : 0;
        words[i / 4] = words[i / 4] << 8 | b & 255;
      }
      war.feed(words[0], words[1], words[2], words[3], words[4]);
    }
  }

  static void feed(HueWar war, String text) {
    byte[] signs = text.getBytes(StandardCharsets.ISO_8859_1);
    int[] bytes = new int[signs.length];
    for (int i = 0; i < signs.length; i++) {
      bytes[i] = signs[i];
    }
    feed(war, bytes);
  }

  static int law(HueWar war, String text) {
    feed(war, text);
    return war.law(text.length());
  }

  static int land(HueWar war, String text) {
    feed(war, text);
    return war.land(text.length());
  }

  static int treaties(HueWar war, String text) {
    feed(war, text);
    return war.treaties(text.length());
  }

  static int judged(HueWar war, String text) {
    feed(war, text);
    return war.judged(text.length());
  }

  static int parted(HueWar war, int what, int... thoughts) {
    feed(war, thoughts);
    return war.parted(thoughts.length / 4, what);
  }

  static int spies(HueWar war, int what, int... shown) {
    feed(war, shown);
    return war.spies(shown.length / 3, what);
  }

  /** Rows of ash below the first ones that are told. */
  static String land(String... rows) {
    StringBuilder text = new StringBuilder();
    for (int y = 0; y < 8; y++) {
      text.append(y > 0 ? "/" : "").append(y < rows.length ? rows[y] : "8.");
    }
    return text.toString();
  }
}
