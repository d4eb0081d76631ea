import java.util.ArrayList;
import java.util.Arrays;
import java.util.HashMap;
import java.util.HashSet;
import java.util.List;
import java.util.Map;
import java.util.Set;
import java.util.TreeSet;

/** The document once more, told as slowly and directly as can be: what ModelTest holds HueWar against. */
final class Model {
  static final class Fault extends RuntimeException {
    private static final long serialVersionUID = 1L;
    final int answer;

    Fault(int number, int place) {
      this.answer = -1000 * number - place;
    }
  }

  static final class Refused extends RuntimeException {
    private static final long serialVersionUID = 1L;
  }

  interface Amount {
    int of(Map<Character, Integer> letters);
  }

  interface Condition {
    boolean of(Map<Character, Integer> letters);
  }

  record Clause(char kind, Amount amount, Condition condition) {
  }

  record Treaty(int colour, Set<Integer> quarters, int giver, int other, boolean shared, int day) {
  }

  // what EMPIRES HAVE: "colour quarter empire"
  private Set<List<Integer>> has = new HashSet<>();
  private List<Treaty> treaties = new ArrayList<>();
  private int day = 0;
  private int x = 1;
  private int[] owners = new int[64];
  private Object[] kept = null;
  private final Map<Integer, int[]> colours = new HashMap<>();
  private int[] land = new int[64];
  private List<Clause> law = new ArrayList<>();
  private final ArrayList<Integer> tape = new ArrayList<>();

  Model() {
    Arrays.fill(owners, 6);
    Arrays.fill(land, 12);
  }

  private static boolean in(int n, int low, int high) {
    return low <= n && n <= high;
  }

  private boolean plain(int c) {
    return colours.containsKey(c) && colours.get(c) == null;
  }

  private boolean mixed(int c) {
    return colours.containsKey(c) && colours.get(c) != null;
  }

  boolean colour(int c, int first, int second) {
    if (!in(c, 0, 11) || colours.containsKey(c)) {
      return false;
    }
    if (first == -1 && second == -1) {
      colours.put(c, null);
      return true;
    }
    if (!colours.containsKey(first) || !colours.containsKey(second) || first == second || first > c || second > c) {
      return false;
    }
    colours.put(c, new int[] {first, second});
    return true;
  }

  boolean have(int c, int quarter, int empires) {
    if (!plain(c) || !in(quarter, 0, 3) || !in(empires, 0, 63)) {
      return false;
    }
    for (int e = 0; e < 6; e++) {
      if ((empires & (1 << e)) != 0) {
        has.add(List.of(c, quarter, e));
      } else {
        has.remove(List.of(c, quarter, e));
      }
    }
    return true;
  }

  boolean owner(int fx, int fy, int empire) {
    if (!in(fx, 0, 7) || !in(fy, 0, 7) || !in(empire, 0, 6)) {
      return false;
    }
    owners[8 * fy + fx] = empire;
    return true;
  }

  int feed(int a, int b, int c, int d, int e) {
    if (tape.size() > 240) {
      return -1;
    }
    for (int word : new int[] {a, b, c, d, e}) {
      for (int i = 3; i >= 0; i--) {
        tape.add((word >>> (8 * i)) % 256);
      }
    }
    return tape.size();
  }

  /** null: NONE. */
  private String taken(int n, int most) {
    if (!in(n, 1, most) || n > tape.size()) {
      return null;
    }
    StringBuilder text = new StringBuilder();
    for (int i = 0; i < n; i++) {
      text.append((char) (int) tape.get(i));
    }
    tape.clear();
    return text.toString();
  }

  int law(int n) {
    String text = taken(n, 240);
    if (text == null) {
      return -1;
    }
    try {
      law = new LawParser(text).clauses();
      return law.size();
    } catch (Fault fault) {
      return fault.answer;
    }
  }

  private static class Parser {
    final String text;
    int at = 0;

    Parser(String text) {
      this.text = text;
    }

    char sign() {
      return text.charAt(at);
    }

    boolean isOneOf(String signs) {
      return at < text.length() && signs.indexOf(text.charAt(at)) >= 0;
    }

    char one(String signs) {
      if (!isOneOf(signs)) {
        throw new Fault(1, at);
      }
      return text.charAt(at++);
    }

    void end() {
      if (at < text.length()) {
        throw new Fault(1, at);
      }
    }
  }

  private static final class LawParser extends Parser {
    private final ArrayList<Character> open = new ArrayList<>();

    LawParser(String text) {
      super(text);
    }

    List<Clause> clauses() {
      List<Clause> all = new ArrayList<>();
      do {
        if (isOneOf("vbsk") && all.size() == 16) {
          throw new Fault(4, at);
        }
        char kind = one("vbsk");
        Amount amount = kind == 'v' || kind == 'b' ? amount() : null;
        one("(");
        open.add('(');
        Condition condition = condition();
        one(")");
        open.clear();
        all.add(new Clause(kind, amount, condition));
        if (at == text.length()) {
          return all;
        }
        one(";");
      } while (true);
    }

    private void open(char sign) {
      if (open.size() == 6) {
        throw new Fault(5, at);
      }
      open.add(sign);
      at++;
    }

    private void close() {
      open.remove(open.size() - 1);
    }

    private Condition condition() {
      List<Condition> parts = new ArrayList<>();
      parts.add(part());
      while (isOneOf("|")) {
        at++;
        parts.add(part());
      }
      return letters -> parts.stream().anyMatch(part -> part.of(letters));
    }

    private Condition part() {
      List<Condition> pieces = new ArrayList<>();
      pieces.add(piece());
      while (isOneOf("&")) {
        at++;
        pieces.add(piece());
      }
      return letters -> pieces.stream().allMatch(piece -> piece.of(letters));
    }

    private Condition piece() {
      if (isOneOf("!")) {
        open('!');
        Condition inner = piece();
        close();
        return letters -> !inner.of(letters);
      }
      if (isOneOf("(")) {
        open('(');
        Condition inner = condition();
        one(")");
        close();
        return inner;
      }
      Amount left = amount();
      char sign = one("<>=");
      Amount right = amount();
      return letters -> {
        int order = Integer.compare(left.of(letters), right.of(letters));
        return sign == '<' ? order < 0 : sign == '>' ? order > 0 : order == 0;
      };
    }

    private Amount amount() {
      Amount sum = term();
      while (isOneOf("+-")) {
        Amount left = sum;
        boolean plus = one("+-") == '+';
        Amount right = term();
        sum = letters -> plus ? left.of(letters) + right.of(letters) : left.of(letters) - right.of(letters);
      }
      return sum;
    }

    private Amount term() {
      Amount product = factor();
      while (isOneOf("*/%")) {
        Amount left = product;
        char sign = one("*/%");
        Amount right = factor();
        product = letters -> {
          int a = left.of(letters);
          int b = right.of(letters);
          if (sign == '*') {
            return a * b;
          }
          if (b == 0) {
            throw new Refused();
          }
          return sign == '/' ? a / b : a % b;
        };
      }
      return product;
    }

    private Amount factor() {
      if (isOneOf("[")) {
        open('[');
        Amount inner = amount();
        one("]");
        close();
        return inner;
      }
      if (isOneOf("0123456789")) {
        int from = at;
        while (isOneOf("0123456789")) {
          if (at == from + 5) {
            throw new Fault(2, at);
          }
          at++;
        }
        int number = Integer.parseInt(text.substring(from, at));
        return letters -> number;
      }
      char letter = one("ecqdmabngo");
      return letters -> letters.getOrDefault(letter, 0);
    }
  }

  private static boolean holds(Clause clause, Map<Character, Integer> letters) {
    try {
      return clause.condition.of(letters);
    } catch (Refused refused) {
      return false;
    }
  }

  private boolean holds(char kind, Map<Character, Integer> letters) {
    return law.stream().anyMatch(clause -> clause.kind == kind && holds(clause, letters));
  }

  private boolean hasKind(char kind) {
    return law.stream().anyMatch(clause -> clause.kind == kind);
  }

  private int amount(char kind, Map<Character, Integer> letters, int most) {
    for (Clause clause : law) {
      if (clause.kind == kind && holds(clause, letters)) {
        try {
          return Math.max(0, Math.min(most, clause.amount.of(letters)));
        } catch (Refused refused) {
          return 0;
        }
      }
    }
    return 0;
  }

  private int havers(int c, int quarter) {
    return (int) has.stream().filter(h -> h.get(0) == c && h.get(1) == quarter).count();
  }

  private Map<Character, Integer> letters(int e, int c, int quarter) {
    Map<Character, Integer> letters = new HashMap<>();
    letters.put('e', e);
    letters.put('c', c);
    letters.put('q', quarter);
    letters.put('d', day);
    letters.put('m', mixed(c) ? 1 : 0);
    letters.put('g', mixed(c) ? 0 : havers(c, quarter));
    return letters;
  }

  int land(int n) {
    String text = taken(n, 160);
    if (text == null) {
      return -1;
    }
    try {
      Parser parser = new Parser(text);
      int[] read = new int[64];
      int filled = 0;
      for (int y = 0; y < 8; y++) {
        int row = 0;
        if (y > 0) {
          parser.one("/");
        }
        while (row < 8 || parser.isOneOf("12345678abcdefghijkl.")) {
          int many = 1;
          if (parser.isOneOf("12345678")) {
            many = parser.sign() - '0';
            if (row + many > 8) {
              throw new Fault(6, parser.at);
            }
            parser.at++;
          }
          int place = parser.at;
          char sign = parser.one("abcdefghijkl.");
          if (row + many > 8) {
            throw new Fault(6, place);
          }
          int c = sign == '.' ? 12 : sign - 'a';
          if (c < 12 && !colours.containsKey(c)) {
            throw new Fault(7, place);
          }
          for (int i = 0; i < many; i++) {
            read[filled++] = c;
          }
          row += many;
        }
      }
      parser.end();
      land = read;
      return (int) Arrays.stream(land).filter(c -> c != 12).count();
    } catch (Fault fault) {
      return fault.answer;
    }
  }

  private static List<Treaty> lines(String text) {
    Parser parser = new Parser(text);
    List<Treaty> lines = new ArrayList<>();
    String digits = "0123456789";
    do {
      if (!lines.isEmpty()) {
        parser.one(",");
      }
      int from = parser.at;
      if (parser.isOneOf(digits) && lines.size() == 8) {
        throw new Fault(4, from);
      }
      int c = parser.one(digits) - '0';
      if (parser.isOneOf(digits)) {
        c = 10 * c + parser.one(digits) - '0';
      }
      if (c > 11) {
        throw new Fault(3, from);
      }
      parser.one("@");
      TreeSet<Integer> quarters = new TreeSet<>();
      quarters.add(parser.one("0123") - '0');
      while (parser.isOneOf("0123")) {
        int quarter = parser.sign() - '0';
        if (quarter <= quarters.last()) {
          throw new Fault(6, parser.at);
        }
        quarters.add(quarter);
        parser.at++;
      }
      boolean shared = parser.one(">+") == '+';
      int giver = parser.one(digits) - '0';
      if (giver > 5) {
        throw new Fault(3, parser.at - 1);
      }
      int other = parser.one(digits) - '0';
      if (other > 5) {
        throw new Fault(3, parser.at - 1);
      }
      if (other == giver) {
        throw new Fault(6, parser.at - 1);
      }
      lines.add(new Treaty(c, quarters, giver, other, shared, -1));
    } while (parser.at < text.length());
    return lines;
  }

  private boolean made(Treaty line) {
    if (!plain(line.colour) || treaties.size() == 16) {
      return false;
    }
    for (int quarter : line.quarters) {
      if (!has.contains(List.of(line.colour, quarter, line.giver))
          || has.contains(List.of(line.colour, quarter, line.other))) {
        return false;
      }
    }
    for (int quarter : line.quarters) {
      has.add(List.of(line.colour, quarter, line.other));
      if (!line.shared) {
        has.remove(List.of(line.colour, quarter, line.giver));
      }
    }
    treaties.add(new Treaty(line.colour, line.quarters, line.giver, line.other, line.shared, day));
    return true;
  }

  int treaties(int n) {
    String text = taken(n, 120);
    if (text == null) {
      return -1;
    }
    try {
      int made = 0;
      for (Treaty line : lines(text)) {
        made += made(line) ? 1 : 0;
      }
      return made;
    } catch (Fault fault) {
      return fault.answer;
    }
  }

  int judged(int n) {
    String text = taken(n, 120);
    if (text == null) {
      return -1;
    }
    Object[] before = state();
    try {
      int i = 0;
      for (Treaty line : lines(text)) {
        if (!made(line)) {
          break;
        }
        i++;
      }
      return i;
    } catch (Fault fault) {
      return fault.answer;
    } finally {
      setState(before);
    }
  }

  private Object[] state() {
    return new Object[] {new HashSet<>(has), new ArrayList<>(treaties), day, x, owners.clone()};
  }

  @SuppressWarnings("unchecked")
  private void setState(Object[] state) {
    has = new HashSet<>((Set<List<Integer>>) state[0]);
    treaties = new ArrayList<>((List<Treaty>) state[1]);
    day = (Integer) state[2];
    x = (Integer) state[3];
    owners = ((int[]) state[4]).clone();
  }

  /** By broken TREATY, the DAY and the giver. */
  private List<int[]> goBy(int n) {
    List<int[]> broken = new ArrayList<>();
    for (int i = 0; i < n && day < 9999; i++) {
      for (Treaty treaty : new ArrayList<>(treaties)) {
        x = (int) ((25173L * x + 13849) % 65536);
        Map<Character, Integer> letters = letters(treaty.giver, treaty.colour, ((TreeSet<Integer>) treaty.quarters).first());
        letters.put('o', day - treaty.day);
        if (x % 10 < amount('b', letters, 10)) {
          for (int quarter : treaty.quarters) {
            has.remove(List.of(treaty.colour, quarter, treaty.other));
            has.add(List.of(treaty.colour, quarter, treaty.giver));
          }
          treaties.removeIf(other -> other == treaty);
          broken.add(new int[] {day, treaty.giver});
        }
      }
      day++;
    }
    return broken;
  }

  int days(int n) {
    return in(n, 1, 99) ? goBy(n).size() : -1;
  }

  int tried(int n, int what) {
    if (!in(n, 1, 99) || (!in(what, 0, 2) && !plain(what - 10))) {
      return -1;
    }
    Object[] before = state();
    try {
      List<int[]> broken = goBy(n);
      if (what == 0) {
        return broken.size();
      }
      if (what <= 2) {
        return broken.isEmpty() ? -2 : broken.get(0)[what - 1];
      }
      return (int) has.stream().filter(h -> h.get(0) == what - 10).count();
    } finally {
      setState(before);
    }
  }

  int treatyIs(int i, int what) {
    if (!in(i, 0, treaties.size() - 1)) {
      return -1;
    }
    Treaty treaty = treaties.get(i);
    switch (what) {
      case 0: return treaty.colour;
      case 1: return treaty.quarters.stream().mapToInt(q -> 1 << q).sum();
      case 2: return treaty.giver;
      case 3: return treaty.other;
      case 4: return treaty.shared ? 1 : 0;
      case 5: return treaty.day;
      default: return -1;
    }
  }

  private boolean isSeen(int e, int c, int quarter) {
    if (!mixed(c)) {
      return has.contains(List.of(c, quarter, e));
    }
    boolean a = isSeen(e, colours.get(c)[0], quarter);
    boolean b = isSeen(e, colours.get(c)[1], quarter);
    if (!hasKind('s')) {
      return a && b;
    }
    Map<Character, Integer> letters = letters(e, c, quarter);
    letters.put('a', a ? 1 : 0);
    letters.put('b', b ? 1 : 0);
    return holds('s', letters);
  }

  private int look(int e, int c, int quarter) {
    if (c == 12 || isSeen(e, c, quarter)) {
      return c;
    }
    if (plain(c)) {
      return 12;
    }
    int first = look(e, colours.get(c)[0], quarter);
    return first != 12 ? first : look(e, colours.get(c)[1], quarter);
  }

  private boolean bad(int e, int c, int quarter) {
    return !in(e, 0, 5) || !colours.containsKey(c) || !in(quarter, 0, 3);
  }

  int sees(int e, int c, int quarter) {
    return bad(e, c, quarter) ? -1 : isSeen(e, c, quarter) ? 1 : 0;
  }

  int appears(int e, int c, int quarter) {
    if (c == 12 && in(e, 0, 5) && in(quarter, 0, 3)) {
      return 12;
    }
    return bad(e, c, quarter) ? -1 : look(e, c, quarter);
  }

  int child(int a, int b, int c, int quarter) {
    if (bad(a, c, quarter) || bad(b, c, quarter)) {
      return -1;
    }
    boolean first = isSeen(a, c, quarter);
    boolean second = isSeen(b, c, quarter);
    if (!hasKind('k')) {
      return first || second ? 1 : 0;
    }
    Map<Character, Integer> letters = letters(a, c, quarter);
    letters.put('a', first ? 1 : 0);
    letters.put('b', second ? 1 : 0);
    return holds('k', letters) ? 1 : 0;
  }

  int unseen(int fx, int fy, int uniform, int e, int quarter) {
    if (!in(fx, 0, 7) || !in(fy, 0, 7) || bad(e, uniform, quarter)) {
      return -1;
    }
    return look(e, uniform, quarter) == look(e, land[8 * fy + fx], quarter) ? 1 : 0;
  }

  private static List<Integer> beside(int field) {
    List<Integer> all = new ArrayList<>();
    for (int other = 0; other < 64; other++) {
      if (Math.abs(other / 8 - field / 8) + Math.abs(other % 8 - field % 8) == 1) {
        all.add(other);
      }
    }
    return all;
  }

  int way(int a, int b, int uniform, int e, int quarter, int what) {
    if (!in(a, 0, 63) || !in(b, 0, 63) || bad(e, uniform, quarter) || !in(what, 0, 2)) {
      return -1;
    }
    boolean[] hidden = new boolean[64];
    for (int field = 0; field < 64; field++) {
      hidden[field] = look(e, uniform, quarter) == look(e, land[field], quarter);
    }
    // least[k][f]: the least number of seen fields on a way of exactly k steps to f
    int[] least = new int[64];
    Arrays.fill(least, 999);
    least[a] = 0;
    int bestSeen = 999;
    int bestSteps = 999;
    for (int steps = 0; steps < 64; steps++) {
      if (least[b] < bestSeen) {
        bestSeen = least[b];
        bestSteps = steps;
      }
      int[] next = new int[64];
      Arrays.fill(next, 999);
      for (int field = 0; field < 64; field++) {
        for (int other : beside(field)) {
          next[field] = Math.min(next[field], least[other] + (hidden[field] ? 0 : 1));
        }
      }
      least = next;
    }
    return what == 0 ? (bestSeen == 0 ? bestSteps : -2) : what == 1 ? bestSeen : bestSteps;
  }

  int worth(int e, int quarter) {
    if (!in(e, 0, 5) || !in(quarter, 0, 3)) {
      return -1;
    }
    int sum = 0;
    for (int field = 0; field < 64; field++) {
      int c = land[field];
      if (owners[field] == e && c != 12 && isSeen(e, c, quarter)) {
        Map<Character, Integer> letters = letters(e, c, quarter);
        int like = 0;
        for (int other = 0; other < 64; other++) {
          like += owners[other] == e && land[other] == c ? 1 : 0;
        }
        letters.put('n', like);
        sum += amount('v', letters, 99);
      }
    }
    return sum;
  }

  /** WORTH, if it HAD just these plain ones in that QUARTER; the other EMPIRES HAVE what they HAVE. */
  private int worthIfIt(int e, int quarter, Set<Integer> plain) {
    Object[] before = state();
    has.removeIf(h -> h.get(1) == quarter && h.get(2) == e);
    for (int c : plain) {
      has.add(List.of(c, quarter, e));
    }
    int worth = worth(e, quarter);
    setState(before);
    return worth;
  }

  int gain(int e, int c, int quarter) {
    if (bad(e, c, quarter) || !plain(c) || has.contains(List.of(c, quarter, e))) {
      return -1000000000;
    }
    Object[] before = state();
    int worth = worth(e, quarter);
    has.add(List.of(c, quarter, e));
    int then = worth(e, quarter);
    setState(before);
    return then - worth;
  }

  private void orders(List<Integer> left, List<Integer> order, List<List<Integer>> all) {
    if (left.isEmpty()) {
      all.add(new ArrayList<>(order));
    }
    for (int i = 0; i < left.size(); i++) {
      List<Integer> rest = new ArrayList<>(left);
      order.add(rest.remove(i));
      orders(rest, order, all);
      order.remove(order.size() - 1);
    }
  }

  int power(int set, int c, int e, int quarter, int what) {
    List<Integer> members = members(set);
    if (members == null || !in(members.size(), 1, 5) || !members.stream().allMatch(this::plain)) {
      return -1000000000;
    }
    if (!members.contains(c) || bad(e, c, quarter) || !in(what, 0, 1)) {
      return -1000000000;
    }
    List<List<Integer>> all = new ArrayList<>();
    orders(members, new ArrayList<>(), all);
    Map<Set<Integer>, Integer> worths = new HashMap<>();
    int sum = 0;
    for (List<Integer> order : all) {
      Set<Integer> before = new HashSet<>(order.subList(0, order.indexOf(c)));
      Set<Integer> after = new HashSet<>(order.subList(0, order.indexOf(c) + 1));
      for (Set<Integer> group : List.of(before, after)) {
        if (!worths.containsKey(group)) {
          worths.put(group, worthIfIt(e, quarter, group));
        }
      }
      sum += worths.get(after) - worths.get(before);
    }
    int below = all.size();
    for (int divisor = below; divisor > 1; divisor--) {
      if (sum % divisor == 0 && below % divisor == 0) {
        return what == 0 ? sum / divisor : below / divisor;
      }
    }
    return what == 0 ? sum : below;
  }

  /** null: bits beyond the COLOURS. */
  private static List<Integer> members(int set) {
    List<Integer> members = new ArrayList<>();
    if (!in(set, 0, 4095)) {
      return null;
    }
    for (int c = 0; c < 12; c++) {
      if ((set & (1 << c)) != 0) {
        members.add(c);
      }
    }
    return members;
  }

  private boolean signals(List<Integer> set, int friends, int foes, int quarter) {
    for (int e = 0; e < 6; e++) {
      Set<Integer> looks = new HashSet<>();
      for (int c : set) {
        looks.add(look(e, c, quarter));
      }
      if ((friends >> e) % 2 == 1 && (looks.size() < set.size() || looks.contains(12))) {
        return false;
      }
      if ((foes >> e) % 2 == 1 && looks.size() > 1) {
        return false;
      }
    }
    return true;
  }

  private List<Integer> signalSets(int n, int friends, int foes, int quarter) {
    List<Integer> sets = new ArrayList<>();
    for (int set = 0; set < 4096; set++) {
      List<Integer> members = members(set);
      if (members.size() == n && colours.keySet().containsAll(members) && signals(members, friends, foes, quarter)) {
        sets.add(set);
      }
    }
    return sets;
  }

  int signals(int n, int friends, int foes, int quarter, int what) {
    if (!in(friends, 1, 63) || !in(foes, 0, 63) || (friends & foes) != 0 || !in(quarter, 0, 3) || !in(what, 0, 2)) {
      return -1;
    }
    if (what == 2) {
      for (int most = 6; most > 1; most--) {
        if (!signalSets(most, friends, foes, quarter).isEmpty()) {
          return most;
        }
      }
      return 0;
    }
    if (!in(n, 2, 6)) {
      return -1;
    }
    List<Integer> sets = signalSets(n, friends, foes, quarter);
    return what == 0 ? sets.size() : sets.isEmpty() ? -2 : sets.get(0);
  }

  int parted(int m, int what) {
    if (!in(m, 2, 3) || (!in(what, 0, 1) && !in(what, 10, 13)) || tape.size() < 4 * m) {
      return -1;
    }
    List<Integer> bytes = new ArrayList<>(tape.subList(0, 4 * m));
    tape.clear();
    if (bytes.stream().anyMatch(b -> b > 99)) {
      return -2;
    }
    int best = -1;
    int[] row = null;
    int[] at = new int[4];
    for (at[0] = 0; at[0] < m; at[0]++) {
      for (at[1] = 0; at[1] < m; at[1]++) {
        for (at[2] = 0; at[2] < m; at[2]++) {
          for (at[3] = 0; at[3] < m; at[3]++) {
            int least = 9999;
            for (int i = 0; i < m; i++) {
              least = Math.min(least, thought(bytes, at, i, i));
            }
            if (least > best) {
              best = least;
              row = at.clone();
            }
          }
        }
      }
    }
    if (what >= 10) {
      return row[what - 10];
    }
    int envy = 0;
    for (int i = 0; i < m; i++) {
      for (int j = 0; j < i; j++) {
        boolean one = thought(bytes, row, i, j) > thought(bytes, row, i, i);
        boolean other = thought(bytes, row, j, i) > thought(bytes, row, j, j);
        envy += one || other ? 1 : 0;
      }
    }
    return what == 0 ? best : envy;
  }

  private static int thought(List<Integer> bytes, int[] row, int thinker, int holder) {
    int sum = 0;
    for (int quarter = 0; quarter < 4; quarter++) {
      sum += row[quarter] == holder ? bytes.get(4 * thinker + quarter) : 0;
    }
    return sum;
  }

  private List<Integer> choices(int taker, int loser, int quarter) {
    List<Integer> all = new ArrayList<>();
    for (int c = 0; c < 12; c++) {
      if (has.contains(List.of(c, quarter, loser)) && !has.contains(List.of(c, quarter, taker))) {
        all.add(c);
      }
    }
    return all;
  }

  private int worthAfter(int a, int b, int ofA, int ofB, int quarter, int who) {
    Object[] before = state();
    has.add(List.of(ofA, quarter, a));
    has.remove(List.of(ofA, quarter, b));
    has.add(List.of(ofB, quarter, b));
    has.remove(List.of(ofB, quarter, a));
    int worth = worth(who, quarter);
    setState(before);
    return worth;
  }

  int battle(int a, int b, int quarter, int what) {
    if (!in(a, 0, 5) || !in(b, 0, 5) || a == b || !in(quarter, 0, 3) || !in(what, 0, 2)) {
      return -1;
    }
    List<int[]> twos = new ArrayList<>();
    List<Integer> ofA = choices(a, b, quarter);
    List<Integer> ofB = choices(b, a, quarter);
    for (int i : ofA) {
      for (int j : ofB) {
        int worthA = worthAfter(a, b, i, j, quarter, a);
        int worthB = worthAfter(a, b, i, j, quarter, b);
        if (ofA.stream().allMatch(k -> worthAfter(a, b, k, j, quarter, a) <= worthA)
            && ofB.stream().allMatch(k -> worthAfter(a, b, i, k, quarter, b) <= worthB)) {
          twos.add(new int[] {i, j});
        }
      }
    }
    return what == 0 ? twos.size() : twos.isEmpty() ? -2 : twos.get(0)[what - 1];
  }

  int spies(int n, int what) {
    if (!in(n, 1, 10) || !in(what, 0, 2) || tape.size() < 3 * n) {
      return -1;
    }
    List<Integer> shown = new ArrayList<>(tape.subList(0, 3 * n));
    tape.clear();
    for (int i = 0; i < 3 * n; i += 3) {
      if (!colours.containsKey(shown.get(i)) || shown.get(i + 1) > 3 || shown.get(i + 2) > 1) {
        return -2;
      }
    }
    List<Integer> fit = new ArrayList<>();
    for (int e = 0; e < 6; e++) {
      boolean fits = true;
      for (int i = 0; i < 3 * n; i += 3) {
        fits &= (look(e, shown.get(i), shown.get(i + 1)) != 12) == (shown.get(i + 2) == 1);
      }
      if (fits) {
        fit.add(e);
      }
    }
    if (what == 0) {
      return fit.stream().mapToInt(e -> 1 << e).sum();
    }
    int[] best = null;
    for (int c : new TreeSet<>(colours.keySet())) {
      for (int quarter = 0; quarter < 4; quarter++) {
        int q = quarter;
        int stop = (int) fit.stream().filter(e -> look(e, c, q) != 12).count();
        int part = Math.max(stop, fit.size() - stop);
        if (best == null || part < best[0]) {
          best = new int[] {part, c, quarter};
        }
      }
    }
    return best[what];
  }

  int painting(int set, int what) {
    List<Integer> members = members(set);
    if (members == null || !colours.keySet().containsAll(members) || !in(what, 0, 2)) {
      return -1;
    }
    List<int[]> twos = new ArrayList<>();
    for (int e = 0; e < 6; e++) {
      for (int quarter = 0; quarter < 4; quarter++) {
        int empire = e;
        int q = quarter;
        if (members.stream().allMatch(c -> isSeen(empire, c, q))) {
          twos.add(new int[] {e, quarter});
        }
      }
    }
    return what == 0 ? twos.size() : twos.isEmpty() ? -2 : twos.get(0)[what - 1];
  }

  int ash(int e, int quarter, int what) {
    if (!in(e, 0, 5) || !in(quarter, 0, 3) || !in(what, 0, 2)) {
      return -1;
    }
    // every ash field takes the least number of its sea
    int[] sea = new int[64];
    for (int field = 0; field < 64; field++) {
      sea[field] = look(e, land[field], quarter) == 12 ? field : -1;
    }
    for (int turn = 0; turn < 64; turn++) {
      for (int field = 0; field < 64; field++) {
        for (int other : beside(field)) {
          if (sea[field] >= 0 && sea[other] >= 0) {
            sea[field] = Math.min(sea[field], sea[other]);
          }
        }
      }
    }
    Map<Integer, Integer> sizes = new HashMap<>();
    for (int s : sea) {
      if (s >= 0) {
        sizes.merge(s, 1, Integer::sum);
      }
    }
    int fields = sizes.values().stream().mapToInt(Integer::intValue).sum();
    int largest = sizes.values().stream().mapToInt(Integer::intValue).max().orElse(0);
    return what == 0 ? fields : what == 1 ? largest : sizes.size();
  }

  boolean seed(int seed) {
    if (!in(seed, 0, 65535)) {
      return false;
    }
    x = seed;
    return true;
  }

  int keep() {
    kept = state();
    return treaties.size();
  }

  boolean undo() {
    if (kept == null) {
      return false;
    }
    setState(kept);
    return true;
  }

  int check(int n) {
    if (!in(n, 0, 8) || tape.size() < 4 * n) {
      return -2;
    }
    int wrong = -1;
    for (int i = n - 1; i >= 0; i--) {
      long number = 0;
      for (int j = 0; j < 4; j++) {
        number = 256 * number + tape.get(4 * i + j);
      }
      if (number != owners[i]) {
        wrong = i;
      }
    }
    tape.clear();
    return wrong;
  }

  int count(int what) {
    switch (what) {
      case 0: return colours.keySet().stream().mapToInt(c -> 1 << c).sum();
      case 1: return colours.keySet().stream().filter(this::mixed).mapToInt(c -> 1 << c).sum();
      case 2: return law.size();
      case 3: return tape.size();
      case 4: return x;
      case 5: return day;
      case 6: return treaties.size();
      default:
    }
    if (in(what, 10, 21)) {
      return mixed(what - 10) ? 100 * colours.get(what - 10)[0] + colours.get(what - 10)[1] : -1;
    }
    if (in(what, 100, 147)) {
      int c = (what - 100) / 4;
      int quarter = what % 4;
      return plain(c) ? has.stream().filter(h -> h.get(0) == c && h.get(1) == quarter).mapToInt(h -> 1 << h.get(2)).sum() : -1;
    }
    if (in(what, 200, 263)) {
      return land[what - 200];
    }
    return in(what, 300, 363) ? owners[what - 300] : -1;
  }
}
