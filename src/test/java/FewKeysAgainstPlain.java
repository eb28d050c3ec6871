import java.util.ArrayDeque;
import java.util.ArrayList;
import java.util.HashMap;
import java.util.HashSet;
import java.util.List;
import java.util.Map;
import java.util.PriorityQueue;
import java.util.Random;
import java.util.Set;

/** Random runs of calls, each answer held against a plain model that is written another way. */
public final class FewKeysAgainstPlain {
  private static int wrong = 0;

  record State(int shown, int sign, int held, boolean typed) {}

  record Key(int kind, int cost, int first, int second) {}

  record Token(char type, String word, int at) {}

  record Reckoner(int kind, int base, int figures, int numbers, List<Key> keys, int fault, int faultAt) {
    static Reckoner bad(int fault, int at) { return new Reckoner(-1, 0, 0, 0, List.of(), fault, at); }
    static Reckoner empty() { return new Reckoner(-1, 0, 0, 0, List.of(), 0, -1); }

    int fit(int z) {
      if (kind == 0) return ((z % numbers) + numbers) % numbers;
      return Math.max(0, Math.min(numbers - 1, z));
    }

    int reckon(int x, int sign, int y) {
      return switch (sign) { case 1 -> fit(x + y); case 2 -> fit(x - y); default -> fit(x * y); };
    }

    State figure(State s, int d) {
      if (!s.typed) return new State(d, s.sign, s.held, true);
      int z = s.shown * base + d;
      int shown = kind == 0 ? z % numbers : z >= numbers ? s.shown : z;
      return new State(shown, s.sign, s.held, true);
    }

    State stroke(State s, Key k) {
      switch (k.kind) {
        case 0: return figure(s, k.first);
        case 1: case 2: case 3: {
          int shown = s.sign != 0 && s.typed ? reckon(s.held, s.sign, s.shown) : s.shown;
          return new State(shown, k.kind, shown, false);
        }
        case 4: return new State(s.sign != 0 ? reckon(s.held, s.sign, s.shown) : s.shown, 0, 0, false);
        case 5: return START;
        case 6: return new State(reckon(s.shown, k.second, k.first), s.sign, s.held, false);
        default: return figure(figure(s, k.first), k.second);
      }
    }
  }

  static final State START = new State(0, 0, 0, false);
  static final int NONE = -1, UNKNOWN = -1000000001, OUTSIDE = -1000000002, NOT = -1000000003, FULL = -1000000004;
  static final List<String> KINDS = List.of("figure", "plus", "less", "times", "is", "clear", "now", "stuck");

  // ---- the text

  static List<Token> tokens(String text) {
    List<Token> row = new ArrayList<>();
    int i = 0;
    while (i < text.length()) {
      char c = text.charAt(i);
      int from = i;
      if (c == ' ') { i++; continue; }
      if (c >= 'a' && c <= 'z') {
        while (i < text.length() && text.charAt(i) >= 'a' && text.charAt(i) <= 'z') i++;
        row.add(new Token('w', text.substring(from, i), from));
      } else if (c >= '0' && c <= '9') {
        while (i < text.length() && text.charAt(i) >= '0' && text.charAt(i) <= '9') i++;
        row.add(new Token('n', text.substring(from, i), from));
      } else {
        i++;
        row.add(new Token(c == ';' ? ';' : '?', "", from));
      }
    }
    row.add(new Token('e', "", text.length()));
    return row;
  }

  static int numberOf(Token t, int low, int high) {
    if (t.type != 'n') return -1;
    if (t.word.length() > 3) return -2;
    int n = Integer.parseInt(t.word);
    return n < low || n > high ? -2 : n;
  }

  static Reckoner parse(String text) {
    List<Token> row = tokens(text);
    if (row.size() == 1) return Reckoner.empty();
    int i = 0;
    if (!row.get(0).word.equals("dial")) return Reckoner.bad(1, row.get(0).at);
    int kind = List.of("round", "stop").indexOf(row.get(1).word);
    if (kind < 0) return Reckoner.bad(1, row.get(1).at);
    int base = numberOf(row.get(2), 2, 10);
    if (base < 0) return Reckoner.bad(-base, row.get(2).at);
    int figures = numberOf(row.get(3), 1, 6);
    if (figures < 0) return Reckoner.bad(-figures, row.get(3).at);
    int numbers = (int) Math.round(Math.pow(base, figures));
    if (numbers > 100) return Reckoner.bad(2, row.get(3).at);
    if (row.get(4).type != ';') return Reckoner.bad(1, row.get(4).at);
    i = 5;
    List<Key> keys = new ArrayList<>();
    while (row.get(i).type != 'e') {
      Token t = row.get(i++);
      if (t.word.equals("dial")) return Reckoner.bad(3, t.at);
      int k = t.type == 'w' ? KINDS.indexOf(t.word) : -1;
      if (k < 0) return Reckoner.bad(1, t.at);
      if (keys.size() == 8) return Reckoner.bad(3, t.at);
      int first = -1, second = -1;
      int[][] bounds = switch (k) {
        case 0 -> new int[][] {{0, base - 1}, {1, 99}};
        case 6 -> new int[][] {{0, numbers - 1}, {1, 99}};
        case 7 -> new int[][] {{0, base - 1}, {0, base - 1}, {1, 99}};
        default -> new int[][] {{1, 99}};
      };
      if (k == 6) {
        Token s = row.get(i++);
        second = s.type == 'w' ? KINDS.indexOf(s.word) : -1;
        if (second < 1 || second > 3) return Reckoner.bad(1, s.at);
      }
      int[] got = new int[bounds.length];
      for (int j = 0; j < bounds.length; j++) {
        Token n = row.get(i++);
        got[j] = numberOf(n, bounds[j][0], bounds[j][1]);
        if (got[j] < 0) return Reckoner.bad(-got[j], n.at);
      }
      if (row.get(i).type != ';') return Reckoner.bad(1, row.get(i).at);
      i++;
      if (bounds.length > 1) first = got[0];
      if (bounds.length > 2) second = got[1];
      keys.add(new Key(k, got[bounds.length - 1], first, second));
    }
    return new Reckoner(kind, base, figures, numbers, keys, 0, -1);
  }

  // ---- the plain model

  static final class Plain {
    StringBuilder text = new StringBuilder();
    Reckoner r = Reckoner.empty();
    int faultAt = NONE;
    State s = START;
    int spent = 0;
    long seed = 0;
    List<Integer> targets = new ArrayList<>();
    List<int[]> book = new ArrayList<>();
    Object[][] images = new Object[2][];
    Map<State, int[]> stepsOf = new HashMap<>();

    boolean onDial(int v) { return v >= 0 && v < r.numbers; }
    boolean isKey(int k) { return k >= 0 && k < r.keys.size(); }

    int feed(int n, long bytes) {
      if (n < 1 || n > 8) return OUTSIDE;
      if (text.length() + n > 400) return FULL;
      String all = "";
      for (int i = 0; i < 8; i++) { all = (char) (bytes & 255) + all; bytes >>= 8; }
      text.append(all.substring(8 - n));
      return text.length();
    }

    int reckoner() {
      Reckoner made = parse(text.toString());
      text.setLength(0);
      faultAt = made.faultAt;
      if (made.fault != 0) return -10 - made.fault;
      r = made; s = START; spent = 0;
      targets.clear(); book.clear(); images = new Object[2][]; stepsOf.clear();
      return r.numbers;
    }

    int told(int what) {
      int[] all = {r.kind, r.base, r.figures, r.numbers, r.keys.size(), text.length(), s.shown, s.sign, s.held,
        s.typed ? 1 : 0, spent, targets.size(), book.size()};
      return what < 0 || what >= all.length ? OUTSIDE : all[what];
    }

    int key(int k, int what) {
      if (!isKey(k)) return UNKNOWN;
      Key x = r.keys.get(k);
      return switch (what) { case 0 -> x.kind; case 1 -> x.cost; case 2 -> x.first; case 3 -> x.second; default -> OUTSIDE; };
    }

    int strike(int k) {
      if (!isKey(k)) return UNKNOWN;
      s = r.stroke(s, r.keys.get(k));
      spent += r.keys.get(k).cost;
      return s.shown;
    }

    int begin() { int was = s.shown; s = START; return was; }

    int[] steps(State from, List<Key> keys) {
      int[] steps = new int[r.numbers];
      java.util.Arrays.fill(steps, NONE);
      Map<State, Integer> far = new HashMap<>();
      ArrayDeque<State> queue = new ArrayDeque<>();
      far.put(from, 0);
      queue.add(from);
      while (!queue.isEmpty()) {
        State x = queue.poll();
        if (r.numbers > 0 && steps[x.shown] == NONE) steps[x.shown] = far.get(x);
        for (Key k : keys) {
          State y = r.stroke(x, k);
          if (far.putIfAbsent(y, far.get(x) + 1) == null) queue.add(y);
        }
      }
      return steps;
    }

    int[] steps(State from) {
      int[] known = stepsOf.get(from);
      if (known == null) { known = steps(from, r.keys); stepsOf.put(from, known); }
      return known;
    }

    int fewest(int v) { return onDial(v) ? steps(s)[v] : OUTSIDE; }

    int way(int v, int i) {
      if (!onDial(v)) return OUTSIDE;
      State x = s;
      int left = steps(x)[v];
      if (i < 0 || i >= left) return NONE;
      for (int j = 0; ; j++, left--) {
        for (int k = 0; k < r.keys.size(); k++) {
          State y = r.stroke(x, r.keys.get(k));
          if (steps(y)[v] == left - 1) {
            if (j == i) return k;
            x = y;
            break;
          }
        }
      }
    }

    int least(int v) {
      if (!onDial(v)) return OUTSIDE;
      record Item(int cost, State at) {}
      PriorityQueue<Item> queue = new PriorityQueue<>((a, b) -> Integer.compare(a.cost, b.cost));
      Set<State> done = new HashSet<>();
      queue.add(new Item(0, s));
      while (!queue.isEmpty()) {
        Item x = queue.poll();
        if (x.at.shown == v) return x.cost;
        if (!done.add(x.at)) continue;
        for (Key k : r.keys) queue.add(new Item(x.cost + k.cost, r.stroke(x.at, k)));
      }
      return NONE;
    }

    int never(int i) {
      List<Integer> row = new ArrayList<>();
      int[] steps = steps(s);
      for (int v = 0; v < r.numbers; v++) if (steps[v] == NONE) row.add(v);
      if (i == NONE) return row.size();
      return i >= 0 && i < row.size() ? row.get(i) : NONE;
    }

    int farthest(int what) {
      if (what < 0 || what > 1) return OUTSIDE;
      if (r.numbers == 0) return NOT;
      int most = 0;
      for (int n : steps(s)) most = Math.max(most, n);
      if (what == 1) return most;
      for (int v = 0; ; v++) if (steps(s)[v] == most) return v;
    }

    int target(int v) {
      if (!onDial(v)) return OUTSIDE;
      if (targets.size() == 6) return FULL;
      targets.add(v);
      return targets.size();
    }

    int targetAt(int i) { return i >= 0 && i < targets.size() ? targets.get(i) : UNKNOWN; }
    int forget() { int had = targets.size(); targets.clear(); return had; }

    int more(int what) {
      if (what < 0 || what > 2) return OUTSIDE;
      if (r.numbers == 0) return NOT;
      List<Key> tries = new ArrayList<>();
      for (int d = 0; d < r.base; d++) tries.add(new Key(0, 1, d, NONE));
      for (int k = 1; k <= 4; k++) tries.add(new Key(k, 1, NONE, NONE));
      Key best = null;
      int bestSum = 0;
      for (Key k : tries) {
        List<Key> keys = new ArrayList<>(r.keys);
        keys.add(k);
        int[] steps = steps(s, keys);
        int sum = 0;
        for (int t : targets) sum += steps[t] == NONE ? 99 : steps[t];
        if (best == null || sum < bestSum) { best = k; bestSum = sum; }
      }
      return what == 0 ? best.kind : what == 1 ? best.first : bestSum;
    }

    int list() {
      record Spot(State at, int shown) {}
      Map<Spot, Integer> far = new HashMap<>();
      ArrayDeque<Spot> queue = new ArrayDeque<>();
      Spot first = new Spot(s, shownUpTo(s, 0));
      far.put(first, 0);
      queue.add(first);
      while (!queue.isEmpty()) {
        Spot x = queue.poll();
        if (x.shown == targets.size()) return far.get(x);
        for (Key k : r.keys) {
          State y = r.stroke(x.at, k);
          Spot spot = new Spot(y, shownUpTo(y, x.shown));
          if (far.putIfAbsent(spot, far.get(x) + 1) == null) queue.add(spot);
        }
      }
      return NONE;
    }

    int shownUpTo(State at, int i) {
      while (i < targets.size() && targets.get(i) == at.shown) i++;
      return i;
    }

    int quick(int p, int e) {
      if (p < 0 || p > 999 || e < 0 || e > 999) return OUTSIDE;
      int[] steps = steps(s);
      long best = Long.MAX_VALUE;
      for (int v = 0; v < r.numbers; v++) {
        int off = Math.abs(v - p);
        if (off <= e && steps[v] != NONE) best = Math.min(best, steps[v] * 1000000L * 1000 + off * 1000L + v);
      }
      return best == Long.MAX_VALUE ? NONE : (int) (best % 1000);
    }

    long rows;
    int common;

    void tryRows(State at, int left, int set, int v) {
      if (left == 0) {
        if (at.shown == v) { rows++; common &= set; }
        return;
      }
      for (int k = 0; k < r.keys.size(); k++) tryRows(r.stroke(at, r.keys.get(k)), left - 1, set | 1 << k, v);
    }

    int struck(int n, int v, int what) {
      if (n < 0 || n > 8 || !onDial(v) || what < 0 || what > 1) return OUTSIDE;
      rows = 0;
      common = 255;
      tryRows(s, n, 0, v);
      return what == 0 ? (int) rows : rows == 0 ? 0 : common;
    }

    int lost(int set) {
      for (int k = 0; k < 32; k++) if ((set >> k & 1) != 0 && !isKey(k)) return UNKNOWN;
      if (Integer.bitCount(set) < 2) return OUTSIDE;
      int choices = r.keys.size() + 1;
      int codes = 1;
      for (int length = 1; length <= 4; length++) {
        codes *= choices;
        for (int code = 0; code < codes; code++) {
          Set<List<Integer>> readings = new HashSet<>();
          for (int k = 0; k < r.keys.size(); k++) {
            if ((set >> k & 1) == 0) continue;
            List<Integer> read = new ArrayList<>();
            State at = s;
            for (int j = 0, c = code; j < length; j++, c /= choices) {
              int stroke = c % choices;
              at = r.stroke(at, r.keys.get(stroke == choices - 1 ? k : stroke));
              read.add(at.shown);
            }
            readings.add(read);
          }
          if (readings.size() == Integer.bitCount(set)) return length;
        }
      }
      return NONE;
    }

    /** From the first one's side, whoever is to strike. */
    int outcome(State at, int v, int left, boolean firstStrikes) {
      if (left == 0 || r.keys.isEmpty()) return 0;
      int best = firstStrikes ? -2 : 2;
      for (Key k : r.keys) {
        State y = r.stroke(at, k);
        int end = y.shown == v ? (firstStrikes ? 1 : -1) : outcome(y, v, left - 1, !firstStrikes);
        best = firstStrikes ? Math.max(best, end) : Math.min(best, end);
      }
      return best;
    }

    int game(int v, int n, int what) {
      if (!onDial(v) || n < 0 || n > 6 || what < 0 || what > 1) return OUTSIDE;
      int best = outcome(s, v, n, true);
      if (what == 0) return best;
      for (int k = 0; k < r.keys.size() && n > 0; k++) {
        State y = r.stroke(s, r.keys.get(k));
        int end = y.shown == v ? 1 : outcome(y, v, n - 1, false);
        if (end == best) return k;
      }
      return NONE;
    }

    int write(int k, int shown) {
      if (!isKey(k)) return UNKNOWN;
      if (!onDial(shown)) return OUTSIDE;
      if (book.size() == 40) return FULL;
      book.add(new int[] {k, shown});
      return book.size();
    }

    int tear() { int had = book.size(); book.clear(); return had; }

    int judge() {
      State at = s;
      for (int i = 0; i < book.size(); i++) {
        at = r.stroke(at, r.keys.get(book.get(i)[0]));
        if (at.shown != book.get(i)[1]) return i;
      }
      return NONE;
    }

    int drift(int n) {
      if (n < 1 || n > 999) return OUTSIDE;
      if (r.keys.isEmpty()) return NOT;
      for (int i = 0; i < n; i++) {
        seed = (seed * 1103515245L + 12345) % (1L << 31);
        strike((int) (seed / 65536 % r.keys.size()));
      }
      return s.shown;
    }

    int seed(int v) { if (v < 0) return OUTSIDE; int was = (int) seed; seed = v; return was; }

    int keep(int i) {
      if (i < 0 || i > 1) return UNKNOWN;
      images[i] = new Object[] {s, spent, new ArrayList<>(targets), seed};
      return 1;
    }

    @SuppressWarnings("unchecked")
    int goBack(int i) {
      if (i < 0 || i > 1) return UNKNOWN;
      if (images[i] == null) return NOT;
      s = (State) images[i][0];
      spent = (Integer) images[i][1];
      targets = new ArrayList<>((List<Integer>) images[i][2]);
      seed = (Long) images[i][3];
      return 1;
    }
  }

  // ---- random runs

  private final Random random;
  private final FewKeys real = new FewKeys();
  private final Plain plain = new Plain();
  private final StringBuilder story = new StringBuilder();
  private boolean bad = false;
  private int calls = 0;

  private FewKeysAgainstPlain(long seed) { random = new Random(seed); }

  private void same(String call, int got, int want) {
    calls++;
    story.append(call).append(" = ").append(got).append('\n');
    if (got != want && !bad) {
      bad = true;
      wrong++;
      System.out.println(story + "due is " + want);
    }
  }

  private int among(int n) { return random.nextInt(n); }

  private static final int[][] DIALS = {{2, 1}, {2, 2}, {2, 3}, {2, 4}, {2, 5}, {2, 6}, {3, 1}, {3, 2}, {3, 3}, {3, 4},
    {4, 1}, {4, 2}, {4, 3}, {5, 1}, {5, 2}, {6, 2}, {7, 1}, {7, 2}, {8, 2}, {9, 2}, {10, 1}, {10, 2}};

  private String blanks(int least) { return " ".repeat(least + (among(6) == 0 ? among(3) : 0)); }

  private String goodText(int leastNumbers, int mostNumbers, int mostKeys) {
    int[] dial = DIALS[among(DIALS.length)];
    int numbers = (int) Math.round(Math.pow(dial[0], dial[1]));
    if (numbers < leastNumbers || numbers > mostNumbers) return goodText(leastNumbers, mostNumbers, mostKeys);
    StringBuilder b = new StringBuilder(blanks(0) + "dial" + blanks(1) + (among(2) == 0 ? "round" : "stop") + blanks(0)
      + dial[0] + blanks(1) + (among(9) == 0 ? "00" : "") + dial[1] + blanks(0) + ";");
    int keys = among(mostKeys + 1);
    for (int i = 0; i < keys; i++) {
      int kind = among(3) == 0 ? 0 : among(8);
      b.append(blanks(0)).append(KINDS.get(kind));
      if (kind == 0) b.append(blanks(0)).append(among(dial[0])).append(blanks(1));
      if (kind == 7) b.append(blanks(0)).append(among(dial[0])).append(blanks(1)).append(among(dial[0])).append(blanks(1));
      if (kind == 6) b.append(blanks(1)).append(KINDS.get(1 + among(3))).append(blanks(0)).append(among(numbers)).append(blanks(1));
      b.append(blanks(0)).append(1 + among(among(3) == 0 ? 99 : 5)).append(blanks(0)).append(";");
    }
    return b.append(blanks(0)).toString();
  }

  private static final String[] BITS = {"dial", "round", "stop", "figure", "plus", "less", "times", "is", "clear", "now", "stuck",
    ";", " ", "0", "1", "2", "9", "10", "99", "100", "0001", "1000", "x", "X", "-", "\u00e9", "\n", ""};

  private String spoilt(String text) {
    for (int i = 0; i <= among(3); i++) {
      int from = among(text.length() + 1);
      int to = Math.min(text.length(), from + among(4));
      switch (among(5)) {
        case 0 -> text = text.substring(0, from);
        case 1 -> text = text.substring(0, from) + text.substring(to);
        case 2 -> text = text.substring(0, from) + BITS[among(BITS.length)] + text.substring(to);
        case 3 -> text = text.substring(0, from) + text.substring(from).replaceFirst("[0-9]+", "" + among(120));
        default -> text = text + "is 1;".repeat(among(9));
      }
    }
    return text;
  }

  private void feedText(String text) {
    for (int i = 0; i < text.length(); ) {
      int n = Math.min(1 + among(8), text.length() - i);
      long bytes = random.nextLong();
      for (int j = 0; j < n; j++) bytes = bytes << 8 | (text.charAt(i + j) & 255);
      same("feed(" + n + ", " + bytes + ") " + text.substring(i, i + n), real.feed(n, bytes), plain.feed(n, bytes));
      i += n;
    }
  }

  private void makeReckoner(String text) {
    feedText(text);
    same("reckoner()", real.reckoner(), plain.reckoner());
    same("fault()", real.fault(), plain.faultAt);
  }

  private int number() {
    int m = plain.r.numbers;
    int pick = among(30);
    if (pick == 0) return m;
    if (pick == 1) return -1;
    if (pick == 2) return random.nextInt();
    return m > 0 ? among(m) : 0;
  }

  private int keyNumber() {
    int pick = among(20);
    int n = plain.r.keys.size();
    if (pick == 0) return n;
    if (pick == 1) return -1;
    if (pick == 2) return random.nextInt();
    return n > 0 ? among(n) : 0;
  }

  private int small(int most) {
    int pick = among(20);
    if (pick == 0) return -1;
    if (pick == 1) return most + 1;
    if (pick == 2) return random.nextInt();
    return among(most + 1);
  }

  private int strokesWithin(int most, double rows) {
    int n = small(most);
    while (n > 1 && n <= most && Math.pow(plain.r.keys.size(), n) > rows) n--;
    return n;
  }

  private void tellAll() {
    for (int what = -1; what <= 13; what++) same("told(" + what + ")", real.told(what), plain.told(what));
  }

  private void oneCall() {
    int a, b, c;
    switch (among(30)) {
      case 0, 1, 2, 3, 4 -> { a = keyNumber(); same("strike(" + a + ")", real.strike(a), plain.strike(a)); }
      case 5 -> { a = small(12); same("told(" + a + ")", real.told(a), plain.told(a)); }
      case 6 -> { a = keyNumber(); b = small(3); same("key(" + a + ", " + b + ")", real.key(a, b), plain.key(a, b)); }
      case 7 -> { if (among(4) == 0) same("begin()", real.begin(), plain.begin()); }
      case 8, 9 -> { a = number(); same("fewest(" + a + ")", real.fewest(a), plain.fewest(a)); }
      case 10 -> { a = number(); b = small(9); same("way(" + a + ", " + b + ")", real.way(a, b), plain.way(a, b)); }
      case 11 -> { a = number(); same("least(" + a + ")", real.least(a), plain.least(a)); }
      case 12 -> { a = small(12); same("never(" + a + ")", real.never(a), plain.never(a)); }
      case 13 -> { a = small(1); same("farthest(" + a + ")", real.farthest(a), plain.farthest(a)); }
      case 14, 15 -> { a = number(); same("target(" + a + ")", real.target(a), plain.target(a)); }
      case 16 -> { a = small(5); same("targetAt(" + a + ")", real.targetAt(a), plain.targetAt(a)); }
      case 17 -> { if (among(3) == 0) same("forget()", real.forget(), plain.forget()); }
      case 18 -> { a = small(2); same("more(" + a + ")", real.more(a), plain.more(a)); }
      case 19 -> same("list()", real.list(), plain.list());
      case 20 -> { a = small(among(2) == 0 ? 120 : 999); b = small(among(2) == 0 ? 9 : 999);
        same("quick(" + a + ", " + b + ")", real.quick(a, b), plain.quick(a, b)); }
      case 21 -> { a = strokesWithin(8, 9000); b = number(); c = small(1);
        same("struck(" + a + ", " + b + ", " + c + ")", real.struck(a, b, c), plain.struck(a, b, c)); }
      case 22 -> { a = among(8) == 0 ? random.nextInt() : among(Math.max(2, 1 << plain.r.keys.size()));
        same("lost(" + a + ")", real.lost(a), plain.lost(a)); }
      case 23 -> { a = number(); b = strokesWithin(6, 9000); c = small(1);
        same("game(" + a + ", " + b + ", " + c + ")", real.game(a, b, c), plain.game(a, b, c)); }
      case 24 -> writeOne();
      case 25 -> { if (among(6) == 0) same("tear()", real.tear(), plain.tear()); same("judge()", real.judge(), plain.judge()); }
      case 26 -> { a = among(2) == 0 ? small(999) : small(5); same("drift(" + a + ")", real.drift(a), plain.drift(a)); }
      case 27 -> { a = among(3) == 0 ? random.nextInt() : among(9); same("seed(" + a + ")", real.seed(a), plain.seed(a)); }
      case 28 -> { a = small(1); same("keep(" + a + ")", real.keep(a), plain.keep(a)); }
      default -> { a = small(1); same("goBack(" + a + ")", real.goBack(a), plain.goBack(a)); tellAll(); }
    }
  }

  /** Half of the entries are right, so that judge() has something to go through. */
  private void writeOne() {
    int k = keyNumber();
    int shown = number();
    if (plain.isKey(k) && among(3) != 0) {
      State at = plain.s;
      for (int[] entry : plain.book) at = plain.r.stroke(at, plain.r.keys.get(entry[0]));
      shown = plain.r.stroke(at, plain.r.keys.get(k)).shown();
    }
    same("write(" + k + ", " + shown + ")", real.write(k, shown), plain.write(k, shown));
  }

  private void run(int leastNumbers, int mostNumbers, int mostKeys) {
    for (int round = 0; round < 3 && calls < 400; round++) {
      if (among(3) == 0) makeReckoner(spoilt(goodText(leastNumbers, mostNumbers, mostKeys)));
      if (round > 0 || among(9) != 0) makeReckoner(goodText(leastNumbers, mostNumbers, mostKeys));
      tellAll();
      int some = 20 + among(90);
      for (int i = 0; i < some && calls < 500; i++) oneCall();
    }
  }

  private void faults() {
    for (int i = 0; i < 20; i++) {
      makeReckoner(spoilt(goodText(2, 100, 8)));
      tellAll();
      for (int k = -1; k <= 8; k++) for (int what = 0; what < 4; what++) same("key", real.key(k, what), plain.key(k, what));
    }
  }

  /** Rows of targets are what random calls seldom make long. */
  private void lists(int leastNumbers, int mostNumbers, int many) {
    makeReckoner(goodText(leastNumbers, mostNumbers, 8));
    for (int i = 0; i < many; i++) {
      same("forget()", real.forget(), plain.forget());
      for (int left = 2 + among(5), v = 0; left > 0; left--) {
        v = among(4) == 0 ? v : among(plain.r.numbers());
        same("target(" + v + ")", real.target(v), plain.target(v));
      }
      same("list()", real.list(), plain.list());
      same("more(2)", real.more(2), plain.more(2));
      int n = 1 + among(5);
      same("drift(" + n + ")", real.drift(n), plain.drift(n));
    }
  }

  // Here the quickest STATE that shows one TARGET is not the best to go on from to the next: hundreds must be kept.
  private static final String[] LATE_STATES = {
    "dial round 2 6;less 1;now less 13 1;plus 1;clear 1;figure 0 1;", "13 29 57 0 7",
    "dial stop 3 4;now plus 80 1;times 1;now less 13 1;is 1;figure 1 1;is 1;times 1;", "11 54 74 37 61 30",
    "dial round 9 2;figure 6 1;now plus 55 1;plus 1;stuck 6 3 1;stuck 0 5 1;", "49 6 49 8",
    "dial stop 7 2;now times 14 1;plus 1;times 1;times 1;now less 18 1;figure 3 1;now less 35 1;", "2 0 23 6",
    "dial round 2 6;times 1;now plus 0 1;stuck 1 1 1;now plus 38 1;", "28 49 29 41 6 6",
    "dial round 2 6;now plus 47 1;now plus 55 1;less 1;figure 0 1;now less 45 1;times 1;plus 1;", "30 0 18 8",
    "dial stop 10 2;less 1;stuck 6 6 1;now less 89 1;now plus 27 1;times 1;figure 3 1;now plus 93 1;now less 33 1;", "28 33 16 66 74",
    "dial stop 3 4;now less 20 1;now plus 51 1;figure 0 1;now less 31 1;less 1;plus 1;", "72 65 0 37 4",
    "dial stop 9 2;times 1;stuck 0 0 1;now plus 11 1;plus 1;less 1;times 1;plus 1;now less 63 1;", "63 0 21 29",
    "dial stop 10 2;now less 87 1;plus 1;now less 6 1;now plus 95 1;now times 15 1;now times 24 1;times 1;stuck 8 7 1;", "91 87 45 80 74 52",
    "dial stop 10 2;figure 0 1;now less 84 1;figure 7 1;times 1;plus 1;less 1;is 1;stuck 9 8 1;", "75 38 0 53 39 71"};

  private void listOf(String text, String targets) {
    makeReckoner(text);
    for (String number : targets.split(" ")) {
      int v = Integer.parseInt(number);
      same("target(" + v + ")", real.target(v), plain.target(v));
    }
    same("list()", real.list(), plain.list());
  }

  public static void main(String[] args) {
    int more = args.length > 0 ? Integer.parseInt(args[0]) : 1;
    for (long seed = 0; seed < 300 * more && wrong < 3; seed++) new FewKeysAgainstPlain(seed).run(2, 16, 8);
    for (long seed = 0; seed < 60 * more && wrong < 3; seed++) new FewKeysAgainstPlain(seed + 1000000).run(9, 36, 6);
    for (long seed = 0; seed < 16 * more && wrong < 3; seed++) new FewKeysAgainstPlain(seed + 2000000).run(64, 100, 8);
    for (long seed = 0; seed < 300 * more && wrong < 3; seed++) new FewKeysAgainstPlain(seed + 3000000).faults();
    for (long seed = 0; seed < 150 * more && wrong < 3; seed++) new FewKeysAgainstPlain(seed + 4000000).lists(4, 36, 12);
    for (long seed = 0; seed < 40 * more && wrong < 3; seed++) new FewKeysAgainstPlain(seed + 5000000).lists(64, 100, 2);
    for (int i = 0; i < LATE_STATES.length; i += 2) new FewKeysAgainstPlain(i).listOf(LATE_STATES[i], LATE_STATES[i + 1]);
    System.out.println(wrong == 0 ? "all answers are as the plain model's" : wrong + " runs are not as the plain model's");
    if (wrong != 0) System.exit(1);
  }
}
