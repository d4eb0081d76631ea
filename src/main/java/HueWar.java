/** A war over red: colours that some empires see and others don't. ../shared/DOC.md tells what each call answers. */
public final class HueWar {
  public static final int NONE = -1;

  private static final int COLOURS = 12;
  private static final int EMPIRES = 6;
  private static final int QUARTERS = 4;
  private static final int WIDTH = 8;
  private static final int FIELDS = 64;
  private static final int ASH = 12;
  private static final int NOBODY = 6;
  private static final int NOTHING = -2;
  private static final int NO_GAIN = -1000000000;
  private static final int MOST_DAYS = 99;
  private static final int MOST_GROUP = 5;
  private static final int MOST_SIGNALS = 6;
  private static final int MOST_SHOWN = 10;
  private static final int MOST_THOUGHT = 99;

  private final Tape tape = new Tape();
  private final Palette palette = new Palette();
  private final Ground ground = new Ground(tape, palette);
  private final Law ruling = new Law(tape);
  private final Law draft = new Law(tape);
  private final Lines lines = new Lines(tape);
  private final State now = new State();
  private final State kept = new State();
  private final State trial = new State();
  private boolean isKept = false;
  private final Eyes eyes = new Eyes(palette, ruling, now);
  private final Purse purse = new Purse(palette, ruling, now, eyes, ground);
  private final Duel duel = new Duel(now, purse);
  private final Paths paths = new Paths();
  /** By EMPIRE and QUARTER, the COLOURS that do not appear as ash. */
  private final int[] bright = new int[EMPIRES * QUARTERS];
  /** By COLOUR, the COLOURS that can stand in one set of SIGNALS with it. */
  private final int[] partners = new int[COLOURS];

  public HueWar() {
  }

  // ---- what is told ----

  public boolean colour(int c, int first, int second) {
    return palette.tell(c, first, second);
  }

  public boolean have(int c, int quarter, int empires) {
    if (!palette.isPlain(c) || !isQuarter(quarter) || empires < 0 || empires >= 1 << EMPIRES) {
      return false;
    }
    now.setHavers(c, quarter, empires);
    return true;
  }

  public boolean owner(int x, int y, int empire) {
    if (!isPlace(x, y) || empire < 0 || empire > NOBODY) {
      return false;
    }
    now.setOwner(WIDTH * y + x, empire);
    return true;
  }

  public int feed(int a, int b, int c, int d, int e) {
    if (tape.length() + 20 > Tape.MOST) {
      return NONE;
    }
    tape.add(a);
    tape.add(b);
    tape.add(c);
    tape.add(d);
    tape.add(e);
    return tape.length();
  }

  public int law(int n) {
    if (!isOnTape(n, Law.MOST_BYTES)) {
      return NONE;
    }
    int fault = draft.read(n);
    tape.clear();
    if (fault != 0) {
      return fault;
    }
    ruling.copyFrom(draft);
    return ruling.clauses();
  }

  public int land(int n) {
    if (!isOnTape(n, Ground.MOST_BYTES)) {
      return NONE;
    }
    int fault = ground.read(n);
    tape.clear();
    return fault != 0 ? fault : ground.painted();
  }

  public int treaties(int n) {
    if (!isOnTape(n, Lines.MOST_BYTES)) {
      return NONE;
    }
    int fault = lines.read(n);
    tape.clear();
    if (fault != 0) {
      return fault;
    }
    int made = 0;
    for (int i = 0; i < lines.length(); i++) {
      if (isMade(now, i)) {
        made++;
      }
    }
    return made;
  }

  public int judged(int n) {
    if (!isOnTape(n, Lines.MOST_BYTES)) {
      return NONE;
    }
    int fault = lines.read(n);
    tape.clear();
    if (fault != 0) {
      return fault;
    }
    trial.copyFrom(now);
    int i = 0;
    while (i < lines.length() && isMade(trial, i)) {
      i++;
    }
    return i;
  }

  public boolean seed(int x) {
    if (x < 0 || x > 65535) {
      return false;
    }
    now.setDraw(x);
    return true;
  }

  // ---- days ----

  public int days(int n) {
    return isDays(n) ? now.goBy(ruling, n) : NONE;
  }

  public int tried(int n, int what) {
    boolean ofColour = palette.isPlain(what - 10);
    if (!isDays(n) || (!isAmong(what, 3) && !ofColour)) {
      return NONE;
    }
    trial.copyFrom(now);
    int broken = trial.goBy(ruling, n);
    switch (what) {
      case 0: return broken;
      case 1: return trial.firstBreakDay();
      case 2: return trial.firstBreaker();
      default: return trial.quartersHad(what - 10);
    }
  }

  public int treatyIs(int i, int what) {
    if (i < 0 || i >= now.treatyCount() || !isAmong(what, State.PARTS)) {
      return NONE;
    }
    return now.part(i, what);
  }

  public int keep() {
    kept.copyFrom(now);
    isKept = true;
    return now.treatyCount();
  }

  public boolean undo() {
    if (!isKept) {
      return false;
    }
    now.copyFrom(kept);
    return true;
  }

  public int check(int n) {
    if (n < 0 || n > WIDTH || tape.length() < 4 * n) {
      return NOTHING;
    }
    int right = 0;
    while (right < n && tape.number(4 * right) == now.ownerOf(right)) {
      right++;
    }
    tape.clear();
    return right == n ? NONE : right;
  }

  // ---- what is seen ----

  public int sees(int e, int c, int quarter) {
    if (!isEmpire(e) || !palette.isTold(c) || !isQuarter(quarter)) {
      return NONE;
    }
    return bit(eyes.seen(e, quarter), c);
  }

  public int appears(int e, int c, int quarter) {
    if (!isEmpire(e) || (!palette.isTold(c) && c != ASH) || !isQuarter(quarter)) {
      return NONE;
    }
    eyes.look(e, quarter);
    return eyes.looks(c);
  }

  public int child(int a, int b, int c, int quarter) {
    if (!isEmpire(a) || !isEmpire(b) || !palette.isTold(c) || !isQuarter(quarter)) {
      return NONE;
    }
    return eyes.childSees(a, b, c, quarter) ? 1 : 0;
  }

  public int unseen(int x, int y, int uniform, int e, int quarter) {
    if (!isPlace(x, y) || !palette.isTold(uniform) || !isEmpire(e) || !isQuarter(quarter)) {
      return NONE;
    }
    eyes.look(e, quarter);
    return isHidden(WIDTH * y + x, uniform) ? 1 : 0;
  }

  public int way(int a, int b, int uniform, int e, int quarter, int what) {
    if (!isAmong(a, FIELDS) || !isAmong(b, FIELDS) || !palette.isTold(uniform)) {
      return NONE;
    }
    if (!isEmpire(e) || !isQuarter(quarter) || !isAmong(what, 3)) {
      return NONE;
    }
    eyes.look(e, quarter);
    for (int field = 0; field < FIELDS; field++) {
      paths.mark(field, isHidden(field, uniform));
    }
    paths.search(a);
    int watched = paths.watchedTo(b);
    switch (what) {
      case 0: return watched == 0 ? paths.stepsTo(b) : NOTHING;
      case 1: return watched;
      default: return paths.stepsTo(b);
    }
  }

  public int painting(int colours, int what) {
    if (!palette.areTold(colours) || !isAmong(what, 3)) {
      return NONE;
    }
    int twos = 0;
    int first = NOTHING;
    for (int two = 0; two < EMPIRES * QUARTERS; two++) {
      if ((colours & ~eyes.seen(two / QUARTERS, two % QUARTERS)) == 0) {
        twos++;
        first = first < 0 ? two : first;
      }
    }
    if (what == 0 || first < 0) {
      return what == 0 ? twos : NOTHING;
    }
    return what == 1 ? first / QUARTERS : first % QUARTERS;
  }

  public int ash(int e, int quarter, int what) {
    if (!isEmpire(e) || !isQuarter(quarter) || !isAmong(what, 3)) {
      return NONE;
    }
    eyes.look(e, quarter);
    int fields = 0;
    for (int field = 0; field < FIELDS; field++) {
      boolean isAsh = eyes.looks(ground.at(field)) == ASH;
      paths.mark(field, isAsh);
      fields += isAsh ? 1 : 0;
    }
    paths.findSeas();
    switch (what) {
      case 0: return fields;
      case 1: return paths.largestSea();
      default: return paths.seas();
    }
  }

  // ---- what it is worth ----

  public int worth(int e, int quarter) {
    if (!isEmpire(e) || !isQuarter(quarter)) {
      return NONE;
    }
    return purse.worthTo(e, quarter);
  }

  public int gain(int e, int c, int quarter) {
    if (!isEmpire(e) || !palette.isPlain(c) || !isQuarter(quarter)) {
      return NO_GAIN;
    }
    int havers = now.havers(c, quarter);
    if (bit(havers, e) == 1) {
      return NO_GAIN;
    }
    int before = purse.worthTo(e, quarter);
    now.setHavers(c, quarter, havers | 1 << e);
    int after = purse.worthTo(e, quarter);
    now.setHavers(c, quarter, havers);
    return after - before;
  }

  public int power(int colours, int c, int e, int quarter, int what) {
    int size = Integer.bitCount(colours);
    if (!palette.arePlain(colours) || size < 1 || size > MOST_GROUP) {
      return NO_GAIN;
    }
    if (!isAmong(c, COLOURS) || bit(colours, c) == 0) {
      return NO_GAIN;
    }
    if (!isEmpire(e) || !isQuarter(quarter) || !isAmong(what, 2)) {
      return NO_GAIN;
    }
    int above = purse.addedBy(colours, c, e, quarter);
    int below = Purse.orders(size);
    int common = commonDivisor(Math.abs(above), below);
    if (common < 1) {
      return NO_GAIN;
    }
    return what == 0 ? above / common : below / common;
  }

  public int battle(int a, int b, int quarter, int what) {
    if (!isEmpire(a) || !isEmpire(b) || a == b || !isQuarter(quarter) || !isAmong(what, 3)) {
      return NONE;
    }
    duel.fight(a, b, quarter);
    switch (what) {
      case 0: return duel.twos();
      case 1: return duel.firstOfA();
      default: return duel.firstOfB();
    }
  }

  // ---- signals, parted, spies ----

  public int signals(int n, int friends, int foes, int quarter, int what) {
    if (friends < 1 || friends >= 1 << EMPIRES || foes < 0 || foes >= 1 << EMPIRES) {
      return NONE;
    }
    if ((friends & foes) != 0 || !isQuarter(quarter) || !isAmong(what, 3)) {
      return NONE;
    }
    if (what != 2 && (n < 2 || n > MOST_SIGNALS)) {
      return NONE;
    }
    findPartners(friends, foes, quarter);
    switch (what) {
      case 0: return setsOf(n);
      case 1: return firstSetOf(n);
      default: return mostSignals();
    }
  }

  public int parted(int m, int what) {
    boolean ofQuarter = isQuarter(what - 10);
    if (m < 2 || m > 3 || (!isAmong(what, 2) && !ofQuarter) || tape.length() < 4 * m) {
      return NONE;
    }
    int answer = NOTHING;
    if (areThoughts(4 * m)) {
      int row = fairestRow(m);
      if (ofQuarter) {
        answer = placeIn(row, m, what - 10);
      } else {
        answer = what == 0 ? leastOf(row, m) : envyOf(row, m);
      }
    }
    tape.clear();
    return answer;
  }

  public int spies(int n, int what) {
    if (n < 1 || n > MOST_SHOWN || !isAmong(what, 3) || tape.length() < 3 * n) {
      return NONE;
    }
    if (!areShown(n)) {
      tape.clear();
      return NOTHING;
    }
    findBright();
    int fit = fitting(n);
    tape.clear();
    if (what == 0) {
      return fit;
    }
    int shown = bestShown(fit);
    return what == 1 ? shown / QUARTERS : shown % QUARTERS;
  }

  // ---- how it stands ----

  public int count(int what) {
    if (isAmong(what - 10, COLOURS)) {
      return palette.parts(what - 10);
    }
    if (isAmong(what - 100, COLOURS * QUARTERS)) {
      int colour = (what - 100) / QUARTERS;
      return palette.isPlain(colour) ? now.havers(colour, (what - 100) % QUARTERS) : NONE;
    }
    if (isAmong(what - 200, FIELDS)) {
      return ground.at(what - 200);
    }
    if (isAmong(what - 300, FIELDS)) {
      return now.ownerOf(what - 300);
    }
    switch (what) {
      case 0: return palette.told();
      case 1: return palette.mixed();
      case 2: return ruling.clauses();
      case 3: return tape.length();
      case 4: return now.draw();
      case 5: return now.day();
      case 6: return now.treatyCount();
      default: return NONE;
    }
  }

  // ---- helpers of these ----

  private static boolean isAmong(int number, int howMany) {
    return number >= 0 && number < howMany;
  }

  private static boolean isEmpire(int e) {
    return isAmong(e, EMPIRES);
  }

  private static boolean isQuarter(int quarter) {
    return quarter >= 0 && quarter < QUARTERS;
  }

  private static boolean isPlace(int x, int y) {
    return isAmong(x, WIDTH) && isAmong(y, WIDTH);
  }

  private static boolean isDays(int n) {
    return n >= 1 && n <= MOST_DAYS;
  }

  private static boolean isDigit(int sign) {
    return sign >= '0' && sign <= '9';
  }

  /** 1 or 0. */
  private static int bit(int bits, int place) {
    return bits >> place & 1;
  }

  private static int commonDivisor(int a, int b) {
    int larger = a;
    int smaller = b;
    for (int turn = 0; turn < 64 && smaller != 0; turn++) {
      int rest = larger % smaller;
      larger = smaller;
      smaller = rest;
    }
    return larger;
  }

  private boolean isOnTape(int n, int most) {
    return n >= 1 && n <= most && n <= tape.length();
  }

  private boolean isMade(State state, int i) {
    return palette.isPlain(lines.hue(i))
        && state.isMade(lines.hue(i), lines.quarters(i), lines.giver(i), lines.other(i), lines.isShared(i));
  }

  /** To the EMPIRE and in the QUARTER that were looked with last. */
  private boolean isHidden(int field, int uniform) {
    return eyes.looks(ground.at(field)) == eyes.looks(uniform);
  }

  // SIGNALS: what friends tell apart and foes do not can be asked of two COLOURS at a time.

  private void findPartners(int friends, int foes, int quarter) {
    for (int c = 0; c < COLOURS; c++) {
      partners[c] = palette.isTold(c) ? palette.told() : 0;
    }
    for (int e = 0; e < EMPIRES; e++) {
      boolean isFriend = bit(friends, e) == 1;
      if (isFriend || bit(foes, e) == 1) {
        eyes.look(e, quarter);
        for (int c = 0; c < COLOURS; c++) {
          partners[c] &= isFriend ? unlike(c) : eyes.alike(c);
        }
      }
    }
  }

  /** The COLOURS that a friend can have in one set with c, c itself with them; none, if c is ash to it. */
  private int unlike(int c) {
    return eyes.looks(c) == ASH ? 0 : (palette.told() & ~eyes.alike(c) & ~eyes.alike(ASH)) | 1 << c;
  }

  private boolean isSignalSet(int set) {
    for (int c = 0; c < COLOURS; c++) {
      if (bit(set, c) == 1 && (set & ~partners[c]) != 0) {
        return false;
      }
    }
    return true;
  }

  private int setsOf(int n) {
    int sets = 0;
    for (int set = 0; set < 1 << COLOURS; set++) {
      if (Integer.bitCount(set) == n && isSignalSet(set)) {
        sets++;
      }
    }
    return sets;
  }

  private int firstSetOf(int n) {
    for (int set = 0; set < 1 << COLOURS; set++) {
      if (Integer.bitCount(set) == n && isSignalSet(set)) {
        return set;
      }
    }
    return NOTHING;
  }

  private int mostSignals() {
    for (int n = MOST_SIGNALS; n >= 2; n--) {
      if (firstSetOf(n) >= 0) {
        return n;
      }
    }
    return 0;
  }

  // PARTED: a row is a number with a digit below m for each QUARTER, QUARTER 0 the highest one.

  private boolean areThoughts(int bytes) {
    for (int i = 0; i < bytes; i++) {
      if (tape.at(i) > MOST_THOUGHT) {
        return false;
      }
    }
    return true;
  }

  private static int placeIn(int row, int m, int quarter) {
    int rest = row;
    for (int later = QUARTERS - 1; later > quarter; later--) {
      rest = m > 0 ? rest / m : 0;
    }
    return m > 0 ? rest % m : 0;
  }

  private int thoughtOf(int row, int m, int thinker, int holder) {
    int sum = 0;
    for (int quarter = 0; quarter < QUARTERS; quarter++) {
      if (placeIn(row, m, quarter) == holder) {
        sum += tape.at(QUARTERS * thinker + quarter);
      }
    }
    return sum;
  }

  private int leastOf(int row, int m) {
    int least = thoughtOf(row, m, 0, 0);
    for (int i = 1; i < m; i++) {
      least = Math.min(least, thoughtOf(row, m, i, i));
    }
    return least;
  }

  private int fairestRow(int m) {
    int rows = m * m * m * m;
    int best = 0;
    int most = -1;
    for (int row = 0; row < rows; row++) {
      int least = leastOf(row, m);
      if (least > most) {
        most = least;
        best = row;
      }
    }
    return best;
  }

  private boolean envies(int row, int m, int one, int other) {
    return thoughtOf(row, m, one, other) > thoughtOf(row, m, one, one);
  }

  private int envyOf(int row, int m) {
    int twos = 0;
    for (int i = 0; i < m; i++) {
      for (int j = i + 1; j < m; j++) {
        if (envies(row, m, i, j) || envies(row, m, j, i)) {
          twos++;
        }
      }
    }
    return twos;
  }

  // SPIES

  private boolean areShown(int n) {
    for (int i = 0; i < n; i++) {
      if (!palette.isTold(tape.at(3 * i)) || !isQuarter(tape.at(3 * i + 1)) || !isAmong(tape.at(3 * i + 2), 2)) {
        return false;
      }
    }
    return true;
  }

  private void findBright() {
    for (int two = 0; two < EMPIRES * QUARTERS; two++) {
      eyes.look(two / QUARTERS, two % QUARTERS);
      bright[two] = palette.told() & ~eyes.alike(ASH);
    }
  }

  private boolean fits(int e, int n) {
    for (int i = 0; i < n; i++) {
      int two = QUARTERS * e + tape.at(3 * i + 1);
      if (!isAmong(two, bright.length) || bit(bright[two], tape.at(3 * i)) != tape.at(3 * i + 2)) {
        return false;
      }
    }
    return true;
  }

  private int fitting(int n) {
    int fit = 0;
    for (int e = 0; e < EMPIRES; e++) {
      if (fits(e, n)) {
        fit |= 1 << e;
      }
    }
    return fit;
  }

  /** Those of the fitting EMPIRES that stop, or those that do not, whichever are more. */
  private int greaterPart(int fit, int c, int quarter) {
    int stopping = 0;
    for (int e = 0; e < EMPIRES; e++) {
      stopping += bit(fit, e) & bit(bright[QUARTERS * e + quarter], c);
    }
    return Math.max(stopping, Integer.bitCount(fit) - stopping);
  }

  /** 4 times the COLOUR, and the QUARTER. */
  private int bestShown(int fit) {
    int best = 0;
    int smallest = EMPIRES + 1;
    for (int shown = 0; shown < COLOURS * QUARTERS; shown++) {
      int colour = shown / QUARTERS;
      if (palette.isTold(colour)) {
        int part = greaterPart(fit, colour, shown % QUARTERS);
        if (part < smallest) {
          smallest = part;
          best = shown;
        }
      }
    }
    return best;
  }

  // ---- the classes inside ----

  /** The bytes that were fed; read as a TEXT sign by sign, behind the first FAULT there is nothing but END. */
  private static final class Tape {
    static final int MOST = 260;
    static final int END = -1;

    private final int[] bytes = new int[MOST];
    private int length = 0;
    private int end = 0;
    private int place = 0;
    private int fault = 0;

    int length() {
      return length;
    }

    void clear() {
      length = 0;
    }

    void add(int word) {
      for (int shift = 24; shift >= 0; shift -= 8) {
        if (length < MOST) {
          bytes[length] = word >> shift & 255;
          length++;
        }
      }
    }

    int at(int i) {
      return i >= 0 && i < length ? bytes[i] : 0;
    }

    /** Four bytes, the highest first. */
    int number(int i) {
      return at(i) << 24 | at(i + 1) << 16 | at(i + 2) << 8 | at(i + 3);
    }

    /** A TEXT of n bytes begins. */
    void start(int n) {
      end = Math.min(n, length);
      place = 0;
      fault = 0;
    }

    int next() {
      return fault == 0 && place >= 0 && place < end ? bytes[place] : END;
    }

    int place() {
      return place;
    }

    void step() {
      place++;
    }

    /** What the call answers; 0: no FAULT. */
    int fault() {
      return fault;
    }

    void fail(int number) {
      if (fault == 0) {
        fault = -1000 * number - place;
      }
    }

    void failAt(int number, int where) {
      if (fault == 0) {
        fault = -1000 * number - where;
      }
    }

    void take(int sign) {
      if (next() == sign) {
        place++;
      } else {
        fail(1);
      }
    }

    void finish() {
      if (place < end) {
        fail(1);
      }
    }
  }

  /** The COLOURS: which are told, and of what they are mixed. */
  private static final class Palette {
    private final int[] firsts = new int[COLOURS];
    private final int[] seconds = new int[COLOURS];
    private int told = 0;
    private int mixed = 0;

    boolean tell(int c, int first, int second) {
      if (!isAmong(c, COLOURS) || isTold(c)) {
        return false;
      }
      if (first != NONE || second != NONE) {
        if (first == second || first >= c || second >= c || !isTold(first) || !isTold(second)) {
          return false;
        }
        firsts[c] = first;
        seconds[c] = second;
        mixed |= 1 << c;
      }
      told |= 1 << c;
      return true;
    }

    int told() {
      return told;
    }

    int mixed() {
      return mixed;
    }

    boolean isTold(int c) {
      return isAmong(c, COLOURS) && bit(told, c) == 1;
    }

    boolean isMixed(int c) {
      return isAmong(c, COLOURS) && bit(mixed, c) == 1;
    }

    boolean isPlain(int c) {
      return isTold(c) && !isMixed(c);
    }

    boolean areTold(int colours) {
      return (colours & ~told) == 0;
    }

    boolean arePlain(int colours) {
      return (colours & ~(told & ~mixed)) == 0;
    }

    int first(int c) {
      return isMixed(c) ? firsts[c] : 0;
    }

    int second(int c) {
      return isMixed(c) ? seconds[c] : 0;
    }

    int parts(int c) {
      return isMixed(c) ? 100 * firsts[c] + seconds[c] : NONE;
    }
  }

  /** THE LAND: the COLOUR of each field. */
  private static final class Ground {
    static final int MOST_BYTES = 160;

    private final Tape tape;
    private final Palette palette;
    private final int[] fields = new int[FIELDS];
    private final int[] drafted = new int[FIELDS];

    Ground(Tape tape, Palette palette) {
      this.tape = tape;
      this.palette = palette;
      for (int field = 0; field < FIELDS; field++) {
        fields[field] = ASH;
      }
    }

    int at(int field) {
      return isAmong(field, FIELDS) ? fields[field] : ASH;
    }

    int painted() {
      int painted = 0;
      for (int field = 0; field < FIELDS; field++) {
        if (fields[field] != ASH) {
          painted++;
        }
      }
      return painted;
    }

    /** The FAULT; 0: there is none, and THE LAND is the new one. */
    int read(int n) {
      tape.start(n);
      for (int y = 0; y < WIDTH; y++) {
        if (y > 0) {
          tape.take('/');
        }
        readRow(y);
      }
      tape.finish();
      if (tape.fault() == 0) {
        System.arraycopy(drafted, 0, fields, 0, FIELDS);
      }
      return tape.fault();
    }

    private void readRow(int y) {
      int x = 0;
      // each turn adds a field or ends in a FAULT, so that WIDTH turns and one more are enough
      for (int turn = 0; turn <= WIDTH && isFieldsStart(tape.next()); turn++) {
        x += readFields(y, x);
      }
      if (x < WIDTH) {
        tape.fail(1);
      }
    }

    private static boolean isFieldsStart(int sign) {
      return sign >= '1' && sign <= '8' || colourOf(sign) >= 0;
    }

    private static int colourOf(int sign) {
      if (sign == '.') {
        return ASH;
      }
      return sign >= 'a' && sign <= 'l' ? sign - 'a' : NONE;
    }

    /** How many fields were told. */
    private int readFields(int y, int x) {
      int many = 1;
      if (isDigit(tape.next())) {
        many = tape.next() - '0';
        if (x + many > WIDTH) {
          tape.fail(6);
          return 0;
        }
        tape.step();
      }
      int colour = colourOf(tape.next());
      if (colour < 0) {
        tape.fail(1);
        return 0;
      }
      if (x + many > WIDTH) {
        tape.fail(6);
        return 0;
      }
      if (colour != ASH && !palette.isTold(colour)) {
        tape.fail(7);
        return 0;
      }
      tape.step();
      for (int i = 0; i < many; i++) {
        drafted[WIDTH * y + x + i] = colour;
      }
      return many;
    }
  }

  /** THE LAW: its CLAUSES as steps over a stack, so that what does not matter can be leapt over. */
  private static final class Law {
    static final int MOST_BYTES = 240;

    private static final int MOST_CLAUSES = 16;
    private static final int MOST_OPEN = 6;
    private static final int MOST_DIGITS = 5;
    private static final int LETTERS = 10;
    // a step is a sign of the TEXT, or one of these
    private static final int NUMBER = '0';
    private static final int LETTER = 'a';
    private static final int STOP = '.';

    private final Tape tape;
    private final int[] ops = new int[MOST_BYTES + 1];
    private final int[] args = new int[MOST_BYTES + 1];
    private int steps = 0;
    private final int[] kinds = new int[MOST_CLAUSES];
    /** By CLAUSE, where the steps of its E begin, and where those of its C. */
    private final int[] amounts = new int[MOST_CLAUSES];
    private final int[] conditions = new int[MOST_CLAUSES];
    private int clauses = 0;
    private final int[] values = new int[LETTERS];
    private final int[] stack = new int[32];

    Law(Tape tape) {
      this.tape = tape;
    }

    int clauses() {
      return clauses;
    }

    void copyFrom(Law other) {
      System.arraycopy(other.ops, 0, ops, 0, ops.length);
      System.arraycopy(other.args, 0, args, 0, args.length);
      System.arraycopy(other.kinds, 0, kinds, 0, MOST_CLAUSES);
      System.arraycopy(other.amounts, 0, amounts, 0, MOST_CLAUSES);
      System.arraycopy(other.conditions, 0, conditions, 0, MOST_CLAUSES);
      steps = other.steps;
      clauses = other.clauses;
    }

    // -- reading --

    /** The FAULT; 0: there is none. */
    int read(int n) {
      tape.start(n);
      clauses = 0;
      steps = 0;
      readClause();
      for (int turn = 0; turn < MOST_CLAUSES && tape.next() == ';'; turn++) {
        tape.step();
        readClause();
      }
      tape.finish();
      return tape.fault();
    }

    private void readClause() {
      int kind = tape.next();
      boolean hasAmount = kind == 'v' || kind == 'b';
      if (!hasAmount && kind != 's' && kind != 'k') {
        tape.fail(1);
        return;
      }
      if (clauses >= MOST_CLAUSES) {
        tape.fail(4);
        return;
      }
      tape.step();
      kinds[clauses] = kind;
      amounts[clauses] = steps;
      if (hasAmount) {
        readSum(0);
        emit(STOP, 0);
      }
      conditions[clauses] = steps;
      tape.take('(');
      readEither(1);
      tape.take(')');
      emit(STOP, 0);
      clauses++;
    }

    /** A C; `open` counts the ( [ ! around it. */
    private void readEither(int open) {
      readBoth(open);
      int leap = NONE;
      for (int turn = 0; turn < MOST_BYTES && tape.next() == '|'; turn++) {
        tape.step();
        // the leap before leads to this one, which leaps on: what is true there is still true
        leadHere(leap);
        leap = emit('|', 0);
        readBoth(open);
      }
      leadHere(leap);
    }

    /** A PART. */
    private void readBoth(int open) {
      readPiece(open);
      int leap = NONE;
      for (int turn = 0; turn < MOST_BYTES && tape.next() == '&'; turn++) {
        tape.step();
        leadHere(leap);
        leap = emit('&', 0);
        readPiece(open);
      }
      leadHere(leap);
    }

    private void readPiece(int open) {
      int sign = tape.next();
      if (sign == '!' || sign == '(') {
        if (open >= MOST_OPEN) {
          tape.fail(5);
          return;
        }
        tape.step();
        if (sign == '!') {
          readPiece(open + 1);
          emit('!', 0);
        } else {
          readEither(open + 1);
          tape.take(')');
        }
        return;
      }
      readSum(open);
      int compared = tape.next();
      if (compared != '<' && compared != '>' && compared != '=') {
        tape.fail(1);
        return;
      }
      tape.step();
      readSum(open);
      emit(compared, 0);
    }

    /** An E. */
    private void readSum(int open) {
      readProduct(open);
      for (int turn = 0; turn < MOST_BYTES && (tape.next() == '+' || tape.next() == '-'); turn++) {
        int sign = tape.next();
        tape.step();
        readProduct(open);
        emit(sign, 0);
      }
    }

    /** A TERM. */
    private void readProduct(int open) {
      readFactor(open);
      for (int turn = 0; turn < MOST_BYTES && isTimes(tape.next()); turn++) {
        int sign = tape.next();
        tape.step();
        readFactor(open);
        emit(sign, 0);
      }
    }

    private static boolean isTimes(int sign) {
      return sign == '*' || sign == '/' || sign == '%';
    }

    private void readFactor(int open) {
      int sign = tape.next();
      if (isDigit(sign)) {
        readNumber();
        return;
      }
      if (sign == '[') {
        if (open >= MOST_OPEN) {
          tape.fail(5);
          return;
        }
        tape.step();
        readSum(open + 1);
        tape.take(']');
        return;
      }
      int letter = letterOf(sign);
      if (letter < 0) {
        tape.fail(1);
        return;
      }
      tape.step();
      emit(LETTER, letter);
    }

    private void readNumber() {
      int number = 0;
      for (int digit = 0; digit < MOST_DIGITS && isDigit(tape.next()); digit++) {
        number = 10 * number + tape.next() - '0';
        tape.step();
      }
      if (isDigit(tape.next())) {
        tape.fail(2);
      }
      emit(NUMBER, number);
    }

    private static int letterOf(int sign) {
      switch (sign) {
        case 'e': return 0;
        case 'c': return 1;
        case 'q': return 2;
        case 'd': return 3;
        case 'm': return 4;
        case 'a': return 5;
        case 'b': return 6;
        case 'n': return 7;
        case 'g': return 8;
        case 'o': return 9;
        default: return NONE;
      }
    }

    /** Where the step stands. */
    private int emit(int op, int arg) {
      int at = steps;
      if (at < ops.length) {
        ops[at] = op;
        args[at] = arg;
        steps++;
      }
      return at;
    }

    private void leadHere(int leap) {
      if (leap >= 0 && leap < args.length) {
        args[leap] = steps;
      }
    }

    // -- what the letters stand for --

    void tell(int empire, int colour, int quarter, int day, int mixed, int havers) {
      values[0] = empire;
      values[1] = colour;
      values[2] = quarter;
      values[3] = day;
      values[4] = mixed;
      values[8] = havers;
      tellParts(0, 0);
      tellFields(0);
      tellAge(0);
    }

    void tellParts(int first, int second) {
      values[5] = first;
      values[6] = second;
    }

    void tellFields(int fields) {
      values[7] = fields;
    }

    void tellAge(int age) {
      values[9] = age;
    }

    // -- asking --

    boolean hasKind(int kind) {
      for (int i = 0; i < clauses; i++) {
        if (kinds[i] == kind) {
          return true;
        }
      }
      return false;
    }

    /** Whether a CLAUSE of that kind holds. */
    boolean holds(int kind) {
      for (int i = 0; i < clauses; i++) {
        if (kinds[i] == kind && run(conditions[i]) != 0) {
          return true;
        }
      }
      return false;
    }

    /** The E of the first CLAUSE of that kind whose C holds, within 0 and most. */
    int amount(int kind, int most) {
      for (int i = 0; i < clauses; i++) {
        if (kinds[i] == kind && run(conditions[i]) != 0) {
          return Math.max(0, Math.min(most, run(amounts[i])));
        }
      }
      return 0;
    }

    /** What the steps come to; what is REFUSED is 0, as an E and as a C that does not hold. */
    private int run(int from) {
      int size = 0;
      int at = from;
      for (int turn = 0; turn < MOST_BYTES && at >= 0 && at < steps && ops[at] != STOP; turn++) {
        int op = ops[at];
        int arg = args[at];
        at++;
        if (op == NUMBER || op == LETTER) {
          if (size < stack.length && (op == NUMBER || arg < LETTERS)) {
            stack[size] = op == NUMBER ? arg : values[arg];
            size++;
          }
        } else if (size < 1) {
          return 0;
        } else if (op == '!') {
          stack[size - 1] = 1 - stack[size - 1];
        } else if (op == '&' || op == '|') {
          if ((stack[size - 1] != 0) == (op == '|')) {
            at = arg;
          } else {
            size--;
          }
        } else if (size < 2 || (stack[size - 1] == 0 && (op == '/' || op == '%'))) {
          return 0;
        } else {
          size--;
          stack[size - 1] = reckoned(stack[size - 1], op, stack[size]);
        }
      }
      return size > 0 ? stack[0] : 0;
    }

    private static int reckoned(int left, int op, int right) {
      switch (op) {
        case '+': return left + right;
        case '-': return left - right;
        case '*': return left * right;
        case '/': return right != 0 ? left / right : 0;
        case '%': return right != 0 ? left % right : 0;
        case '<': return left < right ? 1 : 0;
        case '>': return left > right ? 1 : 0;
        default: return left == right ? 1 : 0;
      }
    }
  }

  /** The LINES of a TEXT of TREATIES. */
  private static final class Lines {
    static final int MOST_BYTES = 120;

    private static final int MOST = 8;

    private final Tape tape;
    private final int[] colours = new int[MOST];
    private final int[] quarters = new int[MOST];
    private final int[] signs = new int[MOST];
    private final int[] givers = new int[MOST];
    private final int[] others = new int[MOST];
    private int length = 0;

    Lines(Tape tape) {
      this.tape = tape;
    }

    int length() {
      return length;
    }

    int hue(int i) {
      return isAmong(i, length) ? colours[i] : 0;
    }

    int quarters(int i) {
      return isAmong(i, length) ? quarters[i] : 0;
    }

    int giver(int i) {
      return isAmong(i, length) ? givers[i] : 0;
    }

    int other(int i) {
      return isAmong(i, length) ? others[i] : 0;
    }

    boolean isShared(int i) {
      return isAmong(i, length) && signs[i] == '+';
    }

    /** The FAULT; 0: there is none. */
    int read(int n) {
      tape.start(n);
      length = 0;
      readLine();
      for (int turn = 0; turn < MOST && tape.next() == ','; turn++) {
        tape.step();
        readLine();
      }
      tape.finish();
      return tape.fault();
    }

    private void readLine() {
      if (!isDigit(tape.next())) {
        tape.fail(1);
        return;
      }
      if (length >= MOST) {
        tape.fail(4);
        return;
      }
      colours[length] = readColour();
      tape.take('@');
      quarters[length] = readQuarters();
      signs[length] = readSign();
      givers[length] = readEmpire(NONE);
      others[length] = readEmpire(givers[length]);
      length++;
    }

    private int readColour() {
      int from = tape.place();
      int colour = 0;
      for (int digit = 0; digit < 2 && isDigit(tape.next()); digit++) {
        colour = 10 * colour + tape.next() - '0';
        tape.step();
      }
      if (colour >= COLOURS) {
        tape.failAt(3, from);
      }
      return colour;
    }

    private int readQuarters() {
      int bits = 0;
      for (int turn = 0; turn <= QUARTERS && isQuarter(tape.next() - '0'); turn++) {
        int quarter = tape.next() - '0';
        // no QUARTER may be told that is not above all told ones
        if (bits >> quarter != 0) {
          tape.fail(6);
          return bits;
        }
        bits |= 1 << quarter;
        tape.step();
      }
      if (bits == 0) {
        tape.fail(1);
      }
      return bits;
    }

    private int readSign() {
      int sign = tape.next();
      if (sign != '>' && sign != '+') {
        tape.fail(1);
        return 0;
      }
      tape.step();
      return sign;
    }

    private int readEmpire(int ahead) {
      int sign = tape.next();
      int empire = sign - '0';
      if (!isDigit(sign)) {
        tape.fail(1);
      } else if (!isEmpire(empire)) {
        tape.fail(3);
      } else if (empire == ahead) {
        tape.fail(6);
      } else {
        tape.step();
      }
      return empire;
    }
  }

  /** What can be KEPT: what EMPIRES HAVE, TREATIES, THE DAY, X, OWNERS. */
  private static final class State {
    /** What treatyIs() tells of a TREATY: COLOUR, QUARTERS, giver, other one, whether shared, DAY. */
    static final int PARTS = 6;

    private static final int MOST_TREATIES = 16;
    private static final int LAST_DAY = 9999;
    private static final int MOST_TENTHS = 10;

    private final int[] havers = new int[COLOURS * QUARTERS];
    private final int[] owners = new int[FIELDS];
    private final int[] treaties = new int[MOST_TREATIES * PARTS];
    private int treatyCount = 0;
    private int day = 0;
    private int draw = 1;
    private int firstBreakDay = NOTHING;
    private int firstBreaker = NOTHING;

    State() {
      for (int field = 0; field < FIELDS; field++) {
        owners[field] = NOBODY;
      }
    }

    void copyFrom(State other) {
      System.arraycopy(other.havers, 0, havers, 0, havers.length);
      System.arraycopy(other.owners, 0, owners, 0, owners.length);
      System.arraycopy(other.treaties, 0, treaties, 0, treaties.length);
      treatyCount = other.treatyCount;
      day = other.day;
      draw = other.draw;
    }

    int day() {
      return day;
    }

    int draw() {
      return draw;
    }

    void setDraw(int x) {
      draw = x;
    }

    int ownerOf(int field) {
      return isAmong(field, FIELDS) ? owners[field] : NOBODY;
    }

    void setOwner(int field, int empire) {
      if (isAmong(field, FIELDS)) {
        owners[field] = empire;
      }
    }

    int havers(int colour, int quarter) {
      return isAmong(colour, COLOURS) && isQuarter(quarter) ? havers[QUARTERS * colour + quarter] : 0;
    }

    void setHavers(int colour, int quarter, int empires) {
      if (isAmong(colour, COLOURS) && isQuarter(quarter)) {
        havers[QUARTERS * colour + quarter] = empires;
      }
    }

    /** The plain COLOURS that an EMPIRE HAS in a QUARTER. */
    int had(int e, int quarter) {
      int colours = 0;
      for (int c = 0; c < COLOURS; c++) {
        colours |= bit(havers(c, quarter), e) << c;
      }
      return colours;
    }

    /** In how many QUARTERS a COLOUR is had, for all EMPIRES together. */
    int quartersHad(int colour) {
      int sum = 0;
      for (int quarter = 0; quarter < QUARTERS; quarter++) {
        sum += Integer.bitCount(havers(colour, quarter));
      }
      return sum;
    }

    int treatyCount() {
      return treatyCount;
    }

    int part(int i, int what) {
      return isAmong(i, treatyCount) && isAmong(what, PARTS) ? treaties[PARTS * i + what] : 0;
    }

    /** Whether a LINE of a plain COLOUR can be; it is made then. */
    boolean isMade(int colour, int quarters, int giver, int other, boolean isShared) {
      if (treatyCount >= MOST_TREATIES || !canGo(colour, quarters, giver, other)) {
        return false;
      }
      move(colour, quarters, isShared ? NONE : giver, other);
      int from = PARTS * treatyCount;
      treaties[from] = colour;
      treaties[from + 1] = quarters;
      treaties[from + 2] = giver;
      treaties[from + 3] = other;
      treaties[from + 4] = isShared ? 1 : 0;
      treaties[from + 5] = day;
      treatyCount++;
      return true;
    }

    private boolean canGo(int colour, int quarters, int giver, int other) {
      for (int quarter = 0; quarter < QUARTERS; quarter++) {
        int empires = havers(colour, quarter);
        if (bit(quarters, quarter) == 1 && (bit(empires, giver) == 0 || bit(empires, other) == 1)) {
          return false;
        }
      }
      return true;
    }

    /** In these QUARTERS the loser (NONE: nobody) has the COLOUR no more, and the winner has it. */
    private void move(int colour, int quarters, int loser, int winner) {
      for (int quarter = 0; quarter < QUARTERS; quarter++) {
        if (bit(quarters, quarter) == 1) {
          int empires = havers(colour, quarter);
          int left = loser == NONE ? empires : empires & ~(1 << loser);
          setHavers(colour, quarter, left | 1 << winner);
        }
      }
    }

    int firstBreakDay() {
      return firstBreakDay;
    }

    int firstBreaker() {
      return firstBreaker;
    }

    /** How many TREATIES are broken in so many DAYS. */
    int goBy(Law law, int n) {
      firstBreakDay = NOTHING;
      firstBreaker = NOTHING;
      int broken = 0;
      for (int turn = 0; turn < n && day < LAST_DAY; turn++) {
        broken += goByOnce(law);
        day++;
      }
      return broken;
    }

    private int goByOnce(Law law) {
      int before = treatyCount;
      int i = 0;
      for (int turn = 0; turn < before; turn++) {
        draw = 25173 * draw + 13849 & 65535;
        if (draw % 10 < chance(law, i)) {
          breakTreaty(i);
        } else {
          i++;
        }
      }
      return before - treatyCount;
    }

    private int chance(Law law, int i) {
      int colour = part(i, 0);
      int quarter = lowest(part(i, 1));
      law.tell(part(i, 2), colour, quarter, day, 0, Integer.bitCount(havers(colour, quarter)));
      law.tellAge(day - part(i, 5));
      return law.amount('b', MOST_TENTHS);
    }

    private static int lowest(int quarters) {
      int quarter = 0;
      while (quarter < QUARTERS && bit(quarters, quarter) == 0) {
        quarter++;
      }
      return quarter;
    }

    private void breakTreaty(int i) {
      if (firstBreakDay == NOTHING) {
        firstBreakDay = day;
        firstBreaker = part(i, 2);
      }
      move(part(i, 0), part(i, 1), part(i, 3), part(i, 2));
      for (int at = PARTS * i; at < PARTS * (treatyCount - 1); at++) {
        treaties[at] = treaties[at + PARTS];
      }
      treatyCount--;
    }
  }

  /** What EMPIRES and their children see, and as what COLOURS appear. */
  private static final class Eyes {
    private final Palette palette;
    private final Law law;
    private final State state;
    private final int[] looks = new int[COLOURS];

    Eyes(Palette palette, Law law, State state) {
      this.palette = palette;
      this.law = law;
      this.state = state;
    }

    /** The COLOURS that are seen. */
    int seen(int e, int quarter) {
      return seenWith(e, quarter, state.had(e, quarter));
    }

    /** The COLOURS that are seen if these are the plain ones of them. */
    int seenWith(int e, int quarter, int plain) {
      int seen = plain;
      boolean hasLaw = law.hasKind('s');
      for (int c = 0; c < COLOURS; c++) {
        if (palette.isMixed(c)) {
          int first = bit(seen, palette.first(c));
          int second = bit(seen, palette.second(c));
          boolean isSeen = first + second == 2;
          if (hasLaw) {
            law.tell(e, c, quarter, state.day(), 1, 0);
            law.tellParts(first, second);
            isSeen = law.holds('s');
          }
          seen |= isSeen ? 1 << c : 0;
        }
      }
      return seen;
    }

    boolean childSees(int a, int b, int c, int quarter) {
      int first = bit(seen(a, quarter), c);
      int second = bit(seen(b, quarter), c);
      if (!law.hasKind('k')) {
        return first + second > 0;
      }
      int mixed = palette.isMixed(c) ? 1 : 0;
      law.tell(a, c, quarter, state.day(), mixed, Integer.bitCount(state.havers(c, quarter)));
      law.tellParts(first, second);
      return law.holds('k');
    }

    /** Looks at all COLOURS; looks() and alike() tell of the last time. */
    void look(int e, int quarter) {
      int seen = seenWith(e, quarter, state.had(e, quarter));
      for (int c = 0; c < COLOURS; c++) {
        if (bit(seen, c) == 1) {
          looks[c] = c;
        } else if (palette.isMixed(c)) {
          int first = looks(palette.first(c));
          looks[c] = first != ASH ? first : looks(palette.second(c));
        } else {
          looks[c] = ASH;
        }
      }
    }

    int looks(int c) {
      return isAmong(c, COLOURS) ? looks[c] : ASH;
    }

    /** The COLOURS, told or not, that appear like c. */
    int alike(int c) {
      int like = looks(c);
      int colours = 0;
      for (int other = 0; other < COLOURS; other++) {
        if (looks[other] == like) {
          colours |= 1 << other;
        }
      }
      return colours;
    }
  }

  /** What COLOURS are worth to EMPIRES. */
  private static final class Purse {
    private static final int MOST_WORTH = 99;
    private static final int[] ORDERS = {1, 1, 2, 6, 24, 120};

    private final Palette palette;
    private final Law law;
    private final State state;
    private final Eyes eyes;
    private final Ground ground;
    private final int[] prices = new int[COLOURS];

    Purse(Palette palette, Law law, State state, Eyes eyes, Ground ground) {
      this.palette = palette;
      this.law = law;
      this.state = state;
      this.eyes = eyes;
      this.ground = ground;
    }

    int worthTo(int e, int quarter) {
      price(e, quarter, 0);
      return worthWith(e, quarter, state.had(e, quarter));
    }

    /**
     * Tells what all fields of a COLOUR that the EMPIRE owns are worth together, if it sees it; of supposed COLOURS
     * the EMPIRE counts as one that HAS them.
     */
    void price(int e, int quarter, int supposed) {
      for (int c = 0; c < COLOURS; c++) {
        int fields = fieldsOf(e, c);
        int havers = state.havers(c, quarter) | bit(supposed, c) << e;
        prices[c] = fields > 0 ? fields * priceOf(e, c, quarter, fields, Integer.bitCount(havers)) : 0;
      }
    }

    private int fieldsOf(int e, int c) {
      int fields = 0;
      for (int field = 0; field < FIELDS; field++) {
        if (ground.at(field) == c && state.ownerOf(field) == e) {
          fields++;
        }
      }
      return fields;
    }

    private int priceOf(int e, int c, int quarter, int fields, int havers) {
      int mixed = palette.isMixed(c) ? 1 : 0;
      law.tell(e, c, quarter, state.day(), mixed, havers);
      law.tellFields(fields);
      return law.amount('v', MOST_WORTH);
    }

    /** WORTH if these are the plain COLOURS that it sees, by the prices that were told last. */
    int worthWith(int e, int quarter, int plain) {
      int seen = eyes.seenWith(e, quarter, plain);
      int sum = 0;
      for (int c = 0; c < COLOURS; c++) {
        sum += bit(seen, c) * prices[c];
      }
      return sum;
    }

    /** In how many orders so many can come. */
    static int orders(int size) {
      return isAmong(size, ORDERS.length) ? ORDERS[size] : 0;
    }

    /** What c adds when it comes, over all orders of the COLOURS together. */
    int addedBy(int colours, int c, int e, int quarter) {
      // what is seen is had: with a COLOUR of them in a group the EMPIRE is one of those that HAVE it
      price(e, quarter, colours);
      int rest = colours & ~(1 << c);
      int others = Integer.bitCount(rest);
      int sum = 0;
      int group = rest;
      for (int turn = 0; turn < 1 << others; turn++) {
        int size = Integer.bitCount(group);
        int added = worthWith(e, quarter, group | 1 << c) - worthWith(e, quarter, group);
        sum += orders(size) * orders(others - size) * added;
        group = group - 1 & rest;
      }
      return sum;
    }
  }

  /** A BATTLE: what each two of choices leaves to both EMPIRES. */
  private static final class Duel {
    private final State state;
    private final Purse purse;
    /** 12 times the choice of a, and the choice of b. */
    private final int[] worthsOfA = new int[COLOURS * COLOURS];
    private final int[] worthsOfB = new int[COLOURS * COLOURS];
    private int choicesOfA = 0;
    private int choicesOfB = 0;
    private int twos = 0;
    private int firstOfA = NOTHING;
    private int firstOfB = NOTHING;

    Duel(State state, Purse purse) {
      this.state = state;
      this.purse = purse;
    }

    int twos() {
      return twos;
    }

    int firstOfA() {
      return firstOfA;
    }

    int firstOfB() {
      return firstOfB;
    }

    void fight(int a, int b, int quarter) {
      int hadByA = state.had(a, quarter);
      int hadByB = state.had(b, quarter);
      choicesOfA = hadByB & ~hadByA;
      choicesOfB = hadByA & ~hadByB;
      // as many EMPIRES have each COLOUR behind it as ahead of it, so that prices stay
      purse.price(a, quarter, 0);
      for (int two = 0; two < COLOURS * COLOURS; two++) {
        if (isChosen(two)) {
          worthsOfA[two] = purse.worthWith(a, quarter, (hadByA | taken(two)) & ~lost(two));
        }
      }
      purse.price(b, quarter, 0);
      for (int two = 0; two < COLOURS * COLOURS; two++) {
        if (isChosen(two)) {
          worthsOfB[two] = purse.worthWith(b, quarter, (hadByB | lost(two)) & ~taken(two));
        }
      }
      findTwos();
    }

    private boolean isChosen(int two) {
      return (choicesOfA & taken(two)) != 0 && (choicesOfB & lost(two)) != 0;
    }

    /** By a, from b. */
    private static int taken(int two) {
      return 1 << two / COLOURS;
    }

    /** By a, to b. */
    private static int lost(int two) {
      return 1 << two % COLOURS;
    }

    private void findTwos() {
      twos = 0;
      firstOfA = NOTHING;
      firstOfB = NOTHING;
      for (int two = 0; two < COLOURS * COLOURS; two++) {
        if (isChosen(two) && isBestOfA(two) && isBestOfB(two)) {
          if (twos == 0) {
            firstOfA = two / COLOURS;
            firstOfB = two % COLOURS;
          }
          twos++;
        }
      }
    }

    private boolean isBestOfA(int two) {
      for (int c = 0; c < COLOURS; c++) {
        int other = COLOURS * c + two % COLOURS;
        if (isChosen(other) && worthsOfA[other] > worthsOfA[two]) {
          return false;
        }
      }
      return true;
    }

    private boolean isBestOfB(int two) {
      for (int c = 0; c < COLOURS; c++) {
        int other = two - two % COLOURS + c;
        if (isChosen(other) && worthsOfB[other] > worthsOfB[two]) {
          return false;
        }
      }
      return true;
    }
  }

  /** WAYS over marked fields (unseen ones), and seas of them (ash). */
  private static final class Paths {
    /** More than the steps of any WAY, so that one field on which one is seen weighs more than these. */
    private static final int SEEN = 100;
    private static final int FAR = 1000000;

    private final boolean[] marks = new boolean[FIELDS];
    private final boolean[] done = new boolean[FIELDS];
    private final int[] costs = new int[FIELDS];
    private final int[] stack = new int[FIELDS];
    private int seas = 0;
    private int largestSea = 0;

    void mark(int field, boolean isMarked) {
      if (isAmong(field, FIELDS)) {
        marks[field] = isMarked;
      }
    }

    /** The field beside, NONE: the land ends there. */
    private static int beside(int field, int side) {
      switch (side) {
        case 0: return field % WIDTH < WIDTH - 1 ? field + 1 : NONE;
        case 1: return field % WIDTH > 0 ? field - 1 : NONE;
        case 2: return field + WIDTH < FIELDS ? field + WIDTH : NONE;
        default: return field >= WIDTH ? field - WIDTH : NONE;
      }
    }

    private void forget() {
      for (int field = 0; field < FIELDS; field++) {
        done[field] = false;
        costs[field] = FAR;
      }
    }

    /** Finds the WAYS as little seen as can be from a field to all others. */
    void search(int from) {
      forget();
      if (isAmong(from, FIELDS)) {
        costs[from] = 0;
      }
      for (int turn = 0; turn < FIELDS; turn++) {
        leave(nearest());
      }
    }

    private int nearest() {
      int nearest = NONE;
      for (int field = 0; field < FIELDS; field++) {
        if (!done[field] && (nearest < 0 || costs[field] < costs[nearest])) {
          nearest = field;
        }
      }
      return nearest;
    }

    private void leave(int field) {
      if (!isAmong(field, FIELDS)) {
        return;
      }
      done[field] = true;
      for (int side = 0; side < 4; side++) {
        int next = beside(field, side);
        if (next >= 0) {
          costs[next] = Math.min(costs[next], costs[field] + 1 + (marks[next] ? 0 : SEEN));
        }
      }
    }

    int watchedTo(int field) {
      return isAmong(field, FIELDS) ? costs[field] / SEEN : 0;
    }

    int stepsTo(int field) {
      return isAmong(field, FIELDS) ? costs[field] % SEEN : 0;
    }

    void findSeas() {
      forget();
      seas = 0;
      largestSea = 0;
      for (int field = 0; field < FIELDS; field++) {
        if (marks[field] && !done[field]) {
          seas++;
          largestSea = Math.max(largestSea, fill(field));
        }
      }
    }

    /** How many fields the sea has. */
    private int fill(int from) {
      int size = 0;
      int waiting = push(from, 0);
      for (int turn = 0; turn < FIELDS && waiting > 0; turn++) {
        waiting--;
        int field = stack[waiting];
        size++;
        for (int side = 0; side < 4; side++) {
          int next = beside(field, side);
          if (next >= 0 && marks[next] && !done[next]) {
            waiting = push(next, waiting);
          }
        }
      }
      return size;
    }

    /** How many fields wait then. */
    private int push(int field, int waiting) {
      if (waiting < 0 || waiting >= FIELDS || !isAmong(field, FIELDS)) {
        return waiting;
      }
      done[field] = true;
      stack[waiting] = field;
      return waiting + 1;
    }

    int seas() {
      return seas;
    }

    int largestSea() {
      return largestSea;
    }
  }
}
