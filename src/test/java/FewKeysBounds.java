import java.math.BigInteger;
import java.util.function.Supplier;
import java.util.function.ToIntFunction;

/**
 * Sentence by sentence: each one of the document that names an edge (too small, too large, empty, full, a going round,
 * a refused call) has a test of its own, under its own words and on objects of its own; answers are reckoned by hand.
 */
public final class FewKeysBounds {
  private static final int NONE = -1, UNKNOWN = -1000000001, OUTSIDE = -1000000002, NOT = -1000000003, FULL = -1000000004;
  private static final int LEAST_INT = Integer.MIN_VALUE, MOST_INT = Integer.MAX_VALUE;

  private static int wrong = 0;
  private static int sentences = 0;
  private static int asked = 1;
  private static String place = "";

  /** Begins the test of one sentence: where it stands, and its words. */
  private static void sentence(String where, String words) {
    if (asked == 0) tell("nothing is asked");
    place = where + ", '" + words + "'";
    asked = 0;
    sentences++;
  }

  private static void tell(String what) {
    wrong++;
    System.out.println(place + ": " + what);
  }

  private static void due(String call, long got, long want) {
    asked++;
    if (got != want) tell(call + " answered " + got + ", due is " + want);
  }

  private static void same(String what, String got, String want) {
    asked++;
    if (!got.equals(want)) tell(what + "\n  is  " + got + "\n  was " + want);
  }

  // ---- objects

  private static void feed(FewKeys x, String text) {
    for (int i = 0; i < text.length(); i += 8) {
      int n = Math.min(8, text.length() - i);
      long bytes = 0;
      for (int j = 0; j < n; j++) bytes = bytes << 8 | text.charAt(i + j);
      x.feed(n, bytes);
    }
  }

  private static FewKeys made(String text, int... keys) {
    FewKeys x = new FewKeys();
    feed(x, text);
    if (x.reckoner() < 0) tell("'" + text + "' is refused at " + x.fault());
    for (int k : keys) x.strike(k);
    return x;
  }

  private static void targets(FewKeys x, int... numbers) {
    x.forget();
    for (int v : numbers) x.target(v);
  }

  private static void good(String text, int numbers) {
    FewKeys x = new FewKeys();
    feed(x, text);
    due("reckoner() of '" + text + "'", x.reckoner(), numbers);
    due("fault() of '" + text + "'", x.fault(), NONE);
    due("told(3) of '" + text + "'", x.told(3), numbers);
  }

  /** The bar stands ahead of the byte that has the FAULT. */
  private static void bad(int fault, String barred) {
    FewKeys x = new FewKeys();
    feed(x, barred.replace("|", ""));
    due("reckoner() of '" + barred + "'", x.reckoner(), -10 - fault);
    due("fault() of '" + barred + "'", x.fault(), barred.indexOf('|'));
    due("told(0) of '" + barred + "'", x.told(0), NONE);
    due("told(4) of '" + barred + "'", x.told(4), 0);
  }

  /** SHOWN, the sign that WAITS, HELD, TYPED. */
  private static void stands(FewKeys x, int shown, int sign, int held, int typed) {
    int[] due = {shown, sign, held, typed};
    for (int i = 0; i < 4; i++) due("told(" + (6 + i) + ")", x.told(6 + i), due[i]);
  }

  /** Strikes the keys, and each must show what stands behind it. */
  private static void shows(FewKeys x, int... keyThenShown) {
    for (int i = 0; i < keyThenShown.length; i += 2) {
      due("strike(" + keyThenShown[i] + "), stroke " + i / 2, x.strike(keyThenShown[i]), keyThenShown[i + 1]);
    }
  }

  // ---- Terms

  private static void terms() {
    sentence("Terms", "What has a number has it from 0 on, as it comes");
    FewKeys x = made("dial stop 10 2;clear 9;figure 3 8;");
    due("key(0, 1)", x.key(0, 1), 9);
    due("key(1, 1)", x.key(1, 1), 8);
    targets(x, 5, 4);
    due("targetAt(0)", x.targetAt(0), 5);
    due("targetAt(1)", x.targetAt(1), 4);
    x.write(1, 4);
    due("judge()", x.judge(), 0);

    sentence("Terms", "A SET is a whole number, bit k for k");
    x = made("dial round 10 2;plus 1;less 1;times 1;is 1;clear 1;plus 1;less 1;figure 7 1;");
    due("struck(1, 7, 1)", x.struck(1, 7, 1), 128);
    due("struck(2, 77, 1)", x.struck(2, 77, 1), 128);
    due("lost(129): bits 0 and 7", x.lost(129), 1);
    due("lost(1): bit 0 alone", x.lost(1), OUTSIDE);
    due("lost(128): bit 7 alone", x.lost(128), OUTSIDE);
    due("lost(257): bit 8", x.lost(257), UNKNOWN);

    sentence("Terms", "REFUSALS, of several the first in this order: UNKNOWN, OUTSIDE, NOT, FULL");
    x = filled();
    due("key(2, 4)", x.key(2, 4), UNKNOWN);
    due("write(2, 4) in a full book", x.write(2, 4), UNKNOWN);
    due("write(2, 3) in a full book", x.write(2, 3), UNKNOWN);
    due("write(0, 4) in a full book", x.write(0, 4), OUTSIDE);
    due("lost(4): one bit, of no key", x.lost(4), UNKNOWN);
    due("target(4) with six", x.target(4), OUTSIDE);
    due("feed(9, 0) in a full text", x.feed(9, 0), OUTSIDE);
    due("goBack(2)", x.goBack(2), UNKNOWN);
    x = new FewKeys();
    due("farthest(2) without a dial", x.farthest(2), OUTSIDE);
    due("more(3) without a dial", x.more(3), OUTSIDE);
    due("drift(0) without keys", x.drift(0), OUTSIDE);
    due("drift(1000) without keys", x.drift(1000), OUTSIDE);
    due("key(0, 4) without keys", x.key(0, 4), UNKNOWN);
    due("write(0, 0) without a dial", x.write(0, 0), UNKNOWN);
    due("lost(1) without keys", x.lost(1), UNKNOWN);

    sentence("Terms", "OUTSIDE (another number out of its bounds; a number that the DIAL has not)");
    for (String dial : new String[] {"dial round 2 1;", "dial stop 3 2;", "dial round 10 2;"}) {
      x = made(dial + "is 1;");
      int m = x.told(3);
      due("fewest(" + (m - 1) + ")", x.fewest(m - 1), NONE);
      for (int v : new int[] {m, -1, LEAST_INT, MOST_INT}) {
        due("fewest(" + v + ")", x.fewest(v), OUTSIDE);
        due("way(" + v + ", 0)", x.way(v, 0), OUTSIDE);
        due("least(" + v + ")", x.least(v), OUTSIDE);
        due("target(" + v + ")", x.target(v), OUTSIDE);
        due("struck(1, " + v + ", 0)", x.struck(1, v, 0), OUTSIDE);
        due("game(" + v + ", 1, 0)", x.game(v, 1, 0), OUTSIDE);
        due("write(0, " + v + ")", x.write(0, v), OUTSIDE);
      }
    }

    sentence("Terms", "They are far below all that is counted: -1000000001 and on");
    due("NONE", FewKeys.NONE, -1);
    due("UNKNOWN", FewKeys.UNKNOWN, -1000000001);
    due("OUTSIDE", FewKeys.OUTSIDE, -1000000002);
    due("NOT", FewKeys.NOT, -1000000003);
    due("FULL", FewKeys.FULL, -1000000004);

    sentence("What it is", "An object is used for at most 512 calls after it has been made");
    x = made("dial stop 2 6;now plus 1 9;");
    for (int call = 5; call < 511; call++) x.strike(0);
    due("strike(0), the 511th call", x.strike(0), 63);
    due("told(10), the 512th call", x.told(10), 507 * 9);
  }

  // ---- What is refused changes nothing

  /** A text of 400 bytes, six targets, a book of 40, one image of two, a seed, a state. */
  private static FewKeys filled() {
    FewKeys x = made("dial stop 2 2;figure 1 3;less 4;", 0, 1);
    targets(x, 3, 2);
    x.seed(70);
    x.keep(0);
    x.seed(71);
    x.strike(0);
    targets(x, 3, 0, 1, 1, 3, 3);
    for (int i = 0; i < 40; i++) x.write(i % 2, 1);
    feed(x, "dial round 3 1;is 5;" + " ".repeat(380));
    return x;
  }

  /** All that can be asked of a small dial; the calls that ask change nothing. */
  private static String all(FewKeys x) {
    StringBuilder b = new StringBuilder("fault ").append(x.fault()).append(" told");
    for (int what = 0; what <= 12; what++) b.append(' ').append(x.told(what));
    b.append(" keys");
    for (int k = 0; k < x.told(4); k++) for (int what = 0; what < 4; what++) b.append(' ').append(x.key(k, what));
    b.append(" fewest, least");
    for (int v = 0; v < x.told(3); v++) b.append(' ').append(x.fewest(v)).append(' ').append(x.least(v));
    b.append(" targets");
    for (int i = 0; i < x.told(11); i++) b.append(' ').append(x.targetAt(i));
    b.append(" list ").append(x.list()).append(" more ").append(x.more(0)).append(' ').append(x.more(1)).append(' ').append(x.more(2));
    b.append(" never ").append(x.never(-1)).append(" judge ").append(x.judge());
    int seed = x.seed(0);
    x.seed(seed);
    return b.append(" seed ").append(seed).toString();
  }

  /** All that is so now, in the images, and in the text. */
  private static String allOfAll(FewKeys x) {
    StringBuilder b = new StringBuilder(all(x));
    for (int i = 0; i < 2; i++) b.append("\n  image ").append(i).append(' ').append(x.goBack(i)).append(' ').append(all(x));
    return b.append("\n  text ").append(x.reckoner()).append(' ').append(all(x)).toString();
  }

  private static void unchanged(Supplier<FewKeys> fresh, String call, ToIntFunction<FewKeys> made, int due) {
    FewKeys x = fresh.get();
    due(call, made.applyAsInt(x), due);
    same("behind " + call + " all", allOfAll(x), allOfAll(fresh.get()));
  }

  private static void refused(String call, ToIntFunction<FewKeys> made, int due) {
    unchanged(FewKeysBounds::filled, call, made, due);
  }

  private static void refusedWhenNew(String call, ToIntFunction<FewKeys> made, int due) {
    unchanged(FewKeys::new, call, made, due);
  }

  private static void refusals() {
    sentence("Terms", "What is refused changes nothing: UNKNOWN");
    for (int k : new int[] {-1, 2, 8, LEAST_INT, MOST_INT}) {
      refused("key(" + k + ", 0)", x -> x.key(k, 0), UNKNOWN);
      refused("strike(" + k + ")", x -> x.strike(k), UNKNOWN);
      refused("write(" + k + ", 0)", x -> x.write(k, 0), UNKNOWN);
      refused("keep(" + k + ")", x -> x.keep(k), UNKNOWN);
      refused("goBack(" + k + ")", x -> x.goBack(k), UNKNOWN);
    }
    refused("targetAt(-1)", x -> x.targetAt(-1), UNKNOWN);
    refused("targetAt(6)", x -> x.targetAt(6), UNKNOWN);
    refused("lost(4)", x -> x.lost(4), UNKNOWN);
    refused("lost(7)", x -> x.lost(7), UNKNOWN);
    refusedWhenNew("strike(0)", x -> x.strike(0), UNKNOWN);
    refusedWhenNew("write(0, 0)", x -> x.write(0, 0), UNKNOWN);

    sentence("Terms", "What is refused changes nothing: OUTSIDE");
    for (int n : new int[] {-1, 1000, LEAST_INT, MOST_INT}) {
      refused("feed(" + n + ", 0)", x -> x.feed(n, 0), OUTSIDE);
      refused("told(" + n + ")", x -> x.told(n), OUTSIDE);
      refused("key(0, " + n + ")", x -> x.key(0, n), OUTSIDE);
      refused("fewest(" + n + ")", x -> x.fewest(n), OUTSIDE);
      refused("way(" + n + ", 0)", x -> x.way(n, 0), OUTSIDE);
      refused("least(" + n + ")", x -> x.least(n), OUTSIDE);
      refused("farthest(" + n + ")", x -> x.farthest(n), OUTSIDE);
      refused("target(" + n + ")", x -> x.target(n), OUTSIDE);
      refused("more(" + n + ")", x -> x.more(n), OUTSIDE);
      refused("quick(" + n + ", 0)", x -> x.quick(n, 0), OUTSIDE);
      refused("struck(" + n + ", 0, 0)", x -> x.struck(n, 0, 0), OUTSIDE);
      refused("game(0, " + n + ", 0)", x -> x.game(0, n, 0), OUTSIDE);
      refused("write(0, " + n + ")", x -> x.write(0, n), OUTSIDE);
      refused("drift(" + n + ")", x -> x.drift(n), OUTSIDE);
    }
    refused("drift(0)", x -> x.drift(0), OUTSIDE);
    refused("seed(-1)", x -> x.seed(-1), OUTSIDE);
    refused("lost(0)", x -> x.lost(0), OUTSIDE);
    refused("lost(2)", x -> x.lost(2), OUTSIDE);

    sentence("Terms", "What is refused changes nothing: NOT");
    refused("goBack(1)", x -> x.goBack(1), NOT);
    refusedWhenNew("goBack(0)", x -> x.goBack(0), NOT);
    refusedWhenNew("farthest(0)", x -> x.farthest(0), NOT);
    refusedWhenNew("more(0)", x -> x.more(0), NOT);
    refusedWhenNew("drift(1)", x -> x.drift(1), NOT);

    sentence("Terms", "What is refused changes nothing: FULL");
    refused("feed(1, 0)", x -> x.feed(1, 0), FULL);
    refused("feed(8, 0)", x -> x.feed(8, 0), FULL);
    refused("target(0)", x -> x.target(0), FULL);
    refused("write(0, 0)", x -> x.write(0, 0), FULL);

    sentence("Terms 3", "from the STATE that is: what is asked strikes nothing");
    refused("way(3, 0)", x -> x.way(3, 0), 0);
    refused("quick(2, 0)", x -> x.quick(2, 0), NONE);
    refused("struck(8, 0, 0)", x -> x.struck(8, 0, 0) > 0 ? 1 : 0, 1);
    refused("lost(3)", x -> x.lost(3), 1);
    refused("game(3, 6, 1)", x -> x.game(3, 6, 1), 0);
    refused("never(0)", x -> x.never(0), 2);
    refused("farthest(1)", x -> x.farthest(1), 1);
  }

  /** Of a dial that stops at 9, with one key that is now plus 1, and 9 for a target. */
  private static void asksFrom(FewKeys x, int shown) {
    due("fewest(9) from " + shown, x.fewest(9), 9 - shown);
    due("way(9, 0) from " + shown, x.way(9, 0), 0);
    due("way(9, " + (9 - shown) + ") from " + shown, x.way(9, 9 - shown), NONE);
    due("least(9) from " + shown, x.least(9), 5 * (9 - shown));
    due("never(-1) from " + shown, x.never(NONE), shown);
    due("farthest(1) from " + shown, x.farthest(1), 9 - shown);
    due("list() from " + shown, x.list(), 9 - shown);
    due("more(2) from " + shown, x.more(2), 1);
    due("more(1) from " + shown, x.more(1), shown == 8 ? 0 : 9);
    due("quick(0, 9) from " + shown, x.quick(0, 9), shown);
    due("struck(1, " + (shown + 1) + ", 0)", x.struck(1, shown + 1, 0), 1);
    due("game(" + (shown + 1) + ", 1, 0)", x.game(shown + 1, 1, 0), 1);
  }

  private static void fromTheStateThatIs() {
    String text = "dial stop 10 1;now plus 1 5;";

    sentence("Terms 3", "from the STATE that is: behind strike, drift");
    FewKeys x = made(text);
    x.target(9);
    asksFrom(x, 0);
    x.strike(0);
    asksFrom(x, 1);
    x.drift(7);
    asksFrom(x, 8);

    sentence("Terms 3", "from the STATE that is: behind begin, goBack");
    x = made(text, 0, 0, 0);
    x.target(9);
    x.keep(1);
    x.strike(0);
    asksFrom(x, 4);
    x.goBack(1);
    asksFrom(x, 3);
    x.begin();
    asksFrom(x, 0);
    x.goBack(1);
    asksFrom(x, 3);

    sentence("Terms 3", "from the STATE that is: behind reckoner");
    x = made(text, 0, 0);
    x.target(9);
    asksFrom(x, 2);
    feed(x, text);
    x.reckoner();
    x.target(9);
    asksFrom(x, 0);
    feed(x, "dial stop 10 1;now plus 3 5;");
    x.reckoner();
    due("fewest(9), by steps of 3", x.fewest(9), 3);
    due("least(9)", x.least(9), 15);
    due("never(-1)", x.never(NONE), 6);
    due("more(2) of no TARGETS", x.more(2), 0);

    sentence("Terms 3", "FEWEST of all TARGETS: behind target, forget, goBack");
    x = made(text);
    due("more(2) of none", x.more(2), 0);
    x.target(9);
    due("more(2) of 9", x.more(2), 1);
    x.keep(0);
    x.target(1);
    due("more(2) of 9, 1", x.more(2), 2);
    x.target(2);
    due("more(2) of 9, 1, 2", x.more(2), 4);
    x.goBack(0);
    due("more(2) of 9 again", x.more(2), 1);
    x.forget();
    due("more(2) of none again", x.more(2), 0);
    due("fewest(9) with its own KEYS alone", x.fewest(9), 9);
    due("way(9, 8) with its own KEYS alone", x.way(9, 8), 0);
  }

  // ---- 1 THE RECKONER

  private static void dials() {
    sentence("Terms 1", "is told in a text (400 bytes at most)");
    String longest = "dial round 10 2;is" + " ".repeat(374) + "1;is 99;";
    FewKeys x = new FewKeys();
    feed(x, longest);
    due("told(5)", x.told(5), 400);
    due("reckoner()", x.reckoner(), 100);
    due("key(1, 1): read to the last byte", x.key(1, 1), 99);
    feed(x, longest + "is 1;");
    due("told(5): no more than 400", x.told(5), 400);
    due("reckoner()", x.reckoner(), 100);
    due("told(4)", x.told(4), 2);

    sentence("Terms 1", "first 'dial' KIND B F ';' (KIND 'round' 'stop', numbered so");
    due("told(0) of round", made("dial round 2 1;").told(0), 0);
    due("told(0) of stop", made("dial stop 2 1;").told(0), 1);
    bad(1, "dial |2 1;");
    bad(1, "dial |rounds 2 1;");
    bad(1, "dial |roun 2 1;");
    bad(1, "dial |stops 2 1;");
    bad(1, "dial |plus 2 1;");

    sentence("Terms 1", "BASE B 2 .. 10");
    bad(2, "dial round |0 1;");
    bad(2, "dial round |1 1;");
    good("dial round 2 1;", 2);
    good("dial round 10 1;", 10);
    bad(2, "dial round |11 1;");
    bad(2, "dial round |999 1;");

    sentence("Terms 1", "F figures, 1 .. 6");
    bad(2, "dial stop 2 |0;");
    good("dial stop 2 1;", 2);
    good("dial stop 2 6;", 64);
    bad(2, "dial stop 2 |7;");
    bad(2, "dial stop 2 |999;");

    sentence("Terms 1", "it shows M numbers, 0 to B to the F less 1; M 100 at most");
    for (int base = 2; base <= 10; base++) {
      int numbers = 1;
      for (int figures = 1; figures <= 6; figures++) {
        numbers *= base;
        String dial = "dial round " + base + " ";
        if (numbers > 100) {
          bad(2, dial + "|" + figures + ";");
        } else {
          good(dial + figures + ";", numbers);
          x = made(dial + figures + ";now less 1 1;");
          due(dial + figures + ": one less than 0", x.strike(0), numbers - 1);
        }
      }
    }

    sentence("Terms 1", "then KEYS (8 at most)");
    String eight = "dial stop 2 1;is 1;is 2;is 3;is 4;is 5;is 6;is 7;is 8;";
    x = made(eight);
    due("told(4)", x.told(4), 8);
    due("key(7, 1)", x.key(7, 1), 8);
    bad(3, eight + "|is 9;");
    due("told(4) of none", made("dial stop 2 1;").told(4), 0);
    bad(1, "|is 1;");
    bad(1, "|is 1;dial stop 2 1;");
  }

  private static void keysInText() {
    sentence("Terms 1", "'figure' D C ';' (D below B)");
    good("dial round 2 1;figure 0 1;", 2);
    good("dial round 2 1;figure 1 1;", 2);
    bad(2, "dial round 2 1;figure |2 1;");
    good("dial round 10 2;figure 9 1;", 100);
    bad(2, "dial round 10 2;figure |10 1;");
    bad(1, "dial round 10 2;figure 9|;");
    bad(1, "dial round 10 2;figure 9 1 |1;");

    sentence("Terms 1", "'plus' C ';' 'less' C ';' 'times' C ';' 'is' C ';' 'clear' C ';'");
    for (String word : new String[] {"plus", "less", "times", "is", "clear"}) {
      good("dial round 2 1;" + word + " 1;", 2);
      bad(1, "dial round 2 1;" + word + "|;");
      bad(1, "dial round 2 1;" + word + " 1 |1;");
      bad(1, "dial round 2 1;" + word + " |plus 1;");
    }

    sentence("Terms 1", "'now' 'plus' | 'less' | 'times' N C ';' (N of the DIAL)");
    for (String sign : new String[] {"plus", "less", "times"}) {
      good("dial round 3 2;now " + sign + " 0 1;", 9);
      good("dial round 3 2;now " + sign + " 8 1;", 9);
      bad(2, "dial round 3 2;now " + sign + " |9 1;");
      good("dial stop 10 2;now " + sign + " 99 1;", 100);
      bad(2, "dial stop 10 2;now " + sign + " |100 1;");
      bad(1, "dial stop 10 2;now " + sign + " 99|;");
      bad(1, "dial stop 10 2;now " + sign + "|;");
    }
    for (String word : new String[] {"figure", "is", "clear", "now", "stuck", "dial", "round", "p", "5"}) {
      bad(1, "dial stop 10 2;now |" + word + " 1 1;");
    }

    sentence("Terms 1", "'stuck' D E C ';' (figures D, then E)");
    good("dial round 3 1;stuck 0 2 1;", 3);
    good("dial round 3 1;stuck 2 0 1;", 3);
    bad(2, "dial round 3 1;stuck |3 0 1;");
    bad(2, "dial round 3 1;stuck 0 |3 1;");
    bad(2, "dial round 10 1;stuck |10 10 1;");
    bad(1, "dial round 3 1;stuck 0 2|;");
    bad(1, "dial round 3 1;stuck 0 2 1 |1;");
    FewKeys x = made("dial stop 10 2;stuck 4 2 1;");
    due("key(0, 2)", x.key(0, 2), 4);
    due("key(0, 3)", x.key(0, 3), 2);
    due("strike(0)", x.strike(0), 42);

    sentence("Terms 1", "KINDS of KEYS are numbered so, 0 to 7");
    x = made("dial stop 2 1;stuck 0 1 1;now less 1 1;clear 1;is 1;times 1;less 1;plus 1;figure 1 1;");
    for (int k = 0; k < 8; k++) due("key(" + k + ", 0)", x.key(k, 0), 7 - k);

    sentence("Terms 1", "a STROKE costs C, 1 .. 99");
    String[] heads = {"figure 1 ", "plus ", "less ", "times ", "is ", "clear ", "now plus 1 ", "stuck 1 1 "};
    for (String head : heads) {
      bad(2, "dial stop 2 2;" + head + "|0;");
      bad(2, "dial stop 2 2;" + head + "|000;");
      bad(2, "dial stop 2 2;" + head + "|100;");
      for (int cost : new int[] {1, 99}) {
        x = made("dial stop 2 2;" + head + cost + ";", 0);
        due("told(10) of " + head + cost, x.told(10), cost);
      }
    }
  }

  private static void signs() {
    sentence("Terms 1", "NUMBERS have one to three figures");
    good("dial round 10 2;figure 09 009;", 100);
    good("dial round 010 002;figure 000 001;", 100);
    due("key(0, 1) of 099", made("dial round 2 1;is 099;").key(0, 1), 99);

    sentence("Terms 1", "words are letters a .. z side by side");
    bad(1, "|Dial round 2 1;");
    bad(1, "|dIal round 2 1;");
    bad(1, "|diaL round 2 1;");
    bad(1, "dial round|X 2 1;");
    bad(1, "dial stop 2 1;is|` 1;");
    bad(1, "dial stop 2 1;is|{ 1;");
    bad(1, "dial stop 2 1;is|_1;");
    bad(1, "dial stop 2 1;is|" + (char) 233 + "1;");

    sentence("Terms 1", "NUMBERS have figures 0 .. 9 alone");
    bad(1, "dial round |/ 1;");
    bad(1, "dial round |: 1;");
    bad(1, "dial round |-2 1;");
    bad(1, "dial round |+2 1;");
    bad(1, "dial round 2|.0 1;");
    bad(1, "dial round |a 1;");

    sentence("Terms 1", "blanks (32) may stand anywhere but within words and NUMBERS");
    good("   dial   round   2   1   ;   is   1   ;   now   plus   1   1   ;   stuck   1   0   9   ;   ", 2);
    bad(1, "|di al round 2 1;");
    bad(1, "dial |st op 2 1;");
    bad(1, "dial stop 2 1;|cl ear 1;");
    bad(1, "dial stop 2 1;is 1 |2;");
    bad(2, "dial stop |1 0 2;");

    sentence("Terms 1", "blanks (32): no other byte is one");
    for (int b : new int[] {0, 9, 10, 11, 12, 13, 31, 33, 95, 127, 128, 160, 255}) {
      bad(1, "dial stop 2 1;is|" + (char) b + "1;");
      bad(1, "|" + (char) b + "dial stop 2 1;");
      bad(1, "dial stop 2 1;|" + (char) b);
      bad(1, "|" + (char) b);
    }

    sentence("Terms 1", "two words, two NUMBERS side by side need one");
    bad(1, "|dialround 2 1;");
    bad(1, "dial stop 2 1;|nowplus 1 1;");
    bad(2, "dial stop |21;");
    bad(2, "dial stop 10 2;figure |71;");
    bad(2, "dial stop 10 2;stuck 1 |11;");
    bad(1, "dial stop 10 2;stuck 1 1|;");

    sentence("Terms 1", "a word and a NUMBER side by side need none");
    good("dial stop10 2;figure7 1;plus1;now times99 1;stuck4 2 1;clear1;", 100);
  }

  private static void faults() {
    sentence("Terms 1", "FAULTS, at the first byte that has one");
    bad(1, "dial |ring 99 99;dial;");
    bad(2, "dial stop |99 99;dial;");
    bad(2, "dial stop 9 |99;dial;");
    bad(3, "dial stop 9 2;|dial stop 99 99;figure 9 0;");
    bad(2, "dial stop 9 2;figure |9 0;figure 9 0;");
    bad(2, "dial stop 9 2;is |0;is 0;is;");
    bad(1, "dial stop 9 2;is 1|,is 0;");

    sentence("Terms 1", "(the end at the text's length)");
    String whole = "dial stop 3 2 ;figure 2 1 ;now less 8 9 ;stuck 1 2 3 ;plus 1 ;";
    for (String cut : new String[] {"dial", "stop", "3", "2 ", "figure", "figure 2", "2 1 ", "now", "less", "8", "9 ", "stuck",
        "stuck 1", "stuck 1 2", "stuck 1 2 3", "plus", "plus 1"}) {
      String text = whole.substring(0, whole.indexOf(cut) + cut.length());
      bad(1, text + "|");
      bad(1, text + "   |");
    }
    for (String cut : new String[] {"2 ;", "1 ;", "9 ;", "3 ;", "plus 1 ;"}) {
      good(whole.substring(0, whole.indexOf(cut) + cut.length()), 9);
      good(whole.substring(0, whole.indexOf(cut) + cut.length()) + "   ", 9);
    }

    sentence("Terms 1", "of these the least");
    bad(1, "|1000;");
    bad(1, "dial |1000 2;");
    bad(1, "dial stop 2 1;|1000;");
    bad(1, "dial stop 2 1;is 1 |1000;");
    bad(1, "dial stop 2 1;now |1000 1;");
    bad(1, "dial |dial 2 1;");
    bad(1, "dial stop |dial 1;");
    bad(1, "dial stop 2 1;is |dial;");
    bad(1, "dial stop 2 1;now |dial 1 1;");
    bad(1, "dial stop 2 1;is 1 |dial;");
    String eight = "dial stop 2 1;" + "is 1;".repeat(8);
    bad(1, eight + "|it 1;");
    bad(1, eight + "|round 1;");
    bad(1, eight + "|1000;");
    bad(1, eight + "|;");

    sentence("Terms 1", "1 it cannot stand there");
    bad(1, "|;");
    bad(1, "|5");
    bad(1, "dial|;");
    bad(1, "dial stop|;");
    bad(1, "dial stop 2|;");
    bad(1, "dial stop 2 1;|;");
    bad(1, "dial stop 2 1;|5;");
    bad(1, "dial stop 2 1|is 1;");
    bad(1, "dial stop 2 1 |1;");

    sentence("Terms 1", "(a word that cannot, another one first than 'dial': at its first letter)");
    bad(1, "  |round 2 1;");
    bad(1, "|figure 2 1;");
    bad(1, "|d");
    bad(1, "|dials");
    bad(1, "dial stop 2 1;  |equals 1;");
    bad(1, "dial stop 2 1;|iss 1;");
    bad(1, "dial stop 2 1;|i");
    bad(1, "dial stop 2 1;|stop 1;");
    bad(1, "|xial round 2 1;");
    bad(1, "|diax round 2 1;");
    bad(1, "dial |xound 2 1;");
    bad(1, "dial stop 2 1;|xs 1;");
    bad(1, "dial stop 2 1;|ix 1;");

    sentence("Terms 1", "2 a NUMBER of four figures or more, or out of its bounds");
    bad(2, "dial stop |0002 1;");
    bad(2, "dial stop 2 |0001;");
    bad(2, "dial stop 2 1;figure |0001 1;");
    bad(2, "dial stop 2 1;figure 1 |0001;");
    bad(2, "dial stop 2 1;now plus |0001 1;");
    bad(2, "dial stop 2 1;stuck 1 |0001 1;");
    bad(2, "dial stop 2 1;is |00000000000000000000001;");
    bad(2, "dial stop 2 1;is |4294967297;");
    bad(2, "dial stop |99999999999999999999 1;");

    sentence("Terms 1", "more than 100 numbers (at the F)");
    bad(2, "dial stop 10 |3;");
    bad(2, "dial stop 5 |3;");
    bad(2, "dial stop 10  |006;");
    bad(2, "dial stop 10 |3");
    good("dial stop 10 2;", 100);

    sentence("Terms 1", "3 'dial' again, a ninth KEY (at its first letter)");
    bad(3, "dial stop 2 1;|dial");
    bad(3, "dial stop 2 1;is 1; |dial stop 2 1;");
    bad(3, eight + "|dial stop 2 1;");
    for (String word : new String[] {"figure 0 1;", "plus 1;", "less 1;", "times 1;", "is 1;", "clear 1;", "now", "stuck"}) {
      bad(3, eight + "  |" + word);
    }

    sentence("Terms 1", "An empty text: no DIAL (M 0), no KEYS");
    good("", 0);
    good(" ", 0);
    good(" ".repeat(400), 0);
    FewKeys x = made("dial stop 2 1;is 1;");
    due("reckoner() of none", x.reckoner(), 0);
    due("told(0)", x.told(0), NONE);
    for (int what = 1; what <= 4; what++) due("told(" + what + ")", x.told(what), 0);
    hasNoDial(x);
    x = filled();
    all(x);
    x.reckoner();
    x.reckoner();
    hasNoDial(x);
  }

  private static void hasNoDial(FewKeys x) {
    due("key(0, 0) without a dial", x.key(0, 0), UNKNOWN);
    due("strike(0) without a dial", x.strike(0), UNKNOWN);
    due("begin() without a dial", x.begin(), 0);
    due("fewest(0) without a dial", x.fewest(0), OUTSIDE);
    due("way(0, 0) without a dial", x.way(0, 0), OUTSIDE);
    due("least(0) without a dial", x.least(0), OUTSIDE);
    due("never(-1) without a dial", x.never(NONE), 0);
    due("never(0) without a dial", x.never(0), NONE);
    due("farthest(0) without a dial", x.farthest(0), NOT);
    due("target(0) without a dial", x.target(0), OUTSIDE);
    due("targetAt(0) without a dial", x.targetAt(0), UNKNOWN);
    due("forget() without a dial", x.forget(), 0);
    due("more(0) without a dial", x.more(0), NOT);
    due("list() without a dial", x.list(), 0);
    due("quick(0, 0) without a dial", x.quick(0, 0), NONE);
    due("struck(0, 0, 0) without a dial", x.struck(0, 0, 0), OUTSIDE);
    due("lost(0) without a dial", x.lost(0), OUTSIDE);
    due("lost(1) without a dial", x.lost(1), UNKNOWN);
    due("game(0, 0, 0) without a dial", x.game(0, 0, 0), OUTSIDE);
    due("write(0, 0) without a dial", x.write(0, 0), UNKNOWN);
    due("tear() without a dial", x.tear(), 0);
    due("judge() without a dial", x.judge(), NONE);
    due("drift(1) without a dial", x.drift(1), NOT);
    due("keep(0) without a dial", x.keep(0), 1);
    due("goBack(0) without a dial", x.goBack(0), 1);
    due("goBack(1) without a dial", x.goBack(1), NOT);
  }

  // ---- 2 STATE

  private static void states() {
    sentence("Terms 2", "SHOWN (0 at first), WAITS (nothing at first), TYPED (not at first)");
    stands(made("dial round 10 2;figure 5 1;"), 0, 0, 0, 0);
    stands(new FewKeys(), 0, 0, 0, 0);

    sentence("Terms 2", "by 'round' left over by M (0 to M less 1)");
    String steps = "10 2;now plus 1 1;now less 1 1;now times 99 1;now times 50 1;now plus 99 1;now less 99 1;";
    FewKeys x = made("dial round " + steps);
    shows(x, 1, 99, 0, 0, 4, 99, 4, 98, 5, 99, 2, 1, 5, 2, 3, 0, 5, 1, 1, 0, 5, 1, 3, 50, 3, 0);
    x = made("dial round 3 2;figure 2 1;plus 1;less 1;times 1;is 1;");
    shows(x, 0, 2, 0, 8, 1, 8, 0, 2, 4, 1);
    shows(x, 2, 1, 0, 2, 4, 8, 3, 8, 0, 2, 4, 7);

    sentence("Terms 2", "by 'stop' M less 1 at most, 0 at least");
    x = made("dial stop " + steps);
    shows(x, 1, 0, 4, 99, 1, 98, 0, 99, 0, 99, 2, 99, 5, 0, 5, 0, 0, 1, 2, 99, 1, 98, 5, 0, 0, 1, 3, 50, 3, 99);
    x = made("dial stop 3 2;figure 2 1;plus 1;less 1;times 1;is 1;");
    shows(x, 0, 2, 0, 8, 1, 8, 0, 2, 4, 8);
    shows(x, 3, 8, 0, 2, 4, 8, 4, 8);
    shows(x, 0, 2, 2, 2, 0, 2, 0, 8, 4, 0);
  }

  private static void figures() {
    sentence("Terms 2", "figure D: TYPED: SHOWN becomes SHOWN times B and D");
    FewKeys x = made("dial stop 10 2;figure 0 1;figure 4 1;");
    shows(x, 0, 0, 1, 4, 0, 40);
    x = made("dial stop 2 6;figure 1 1;figure 0 1;");
    shows(x, 0, 1, 1, 2, 0, 5, 1, 10, 0, 21, 0, 43);

    sentence("Terms 2", "by 'round' left over by M");
    x = made("dial round 10 2;figure 7 1;figure 0 1;");
    shows(x, 0, 7, 0, 77, 1, 70, 1, 0, 0, 7);
    x = made("dial round 10 1;figure 7 1;figure 0 1;");
    shows(x, 0, 7, 0, 7, 1, 0, 0, 7);
    x = made("dial round 2 2;figure 1 1;figure 0 1;");
    shows(x, 0, 1, 1, 2, 0, 1, 0, 3, 0, 3, 1, 2, 1, 0);

    sentence("Terms 2", "by 'stop' it stays as it was, if that is M or more");
    x = made("dial stop 10 2;figure 9 1;figure 0 1;plus 1;");
    shows(x, 0, 9, 0, 99, 0, 99, 1, 99);
    stands(x, 99, 0, 0, 1);
    x = made("dial stop 10 2;figure 1 1;figure 0 1;");
    shows(x, 0, 1, 1, 10, 1, 10, 0, 10);
    x = made("dial stop 10 1;figure 3 1;figure 0 1;");
    shows(x, 1, 0, 0, 3, 0, 3, 1, 3);
    x = made("dial stop 2 3;figure 1 1;figure 0 1;");
    shows(x, 0, 1, 0, 3, 0, 7, 1, 7);
    x = made("dial stop 2 3;figure 1 1;figure 0 1;");
    shows(x, 0, 1, 1, 2, 1, 4, 0, 4);

    sentence("Terms 2", "else SHOWN becomes D and is TYPED");
    x = made("dial round 10 2;figure 4 1;figure 0 1;now plus 50 1;plus 1;is 1;");
    shows(x, 2, 50, 0, 4);
    stands(x, 4, 0, 0, 1);
    shows(x, 2, 54, 1, 0);
    stands(x, 0, 0, 0, 1);
    shows(x, 0, 4, 3, 4, 1, 0);
    stands(x, 0, 1, 4, 1);

    sentence("Terms 2", "stuck: its two figures, one behind the other");
    x = made("dial stop 10 2;stuck 4 2 1;figure 9 1;now less 90 1;stuck 0 7 1;");
    shows(x, 0, 42, 0, 42, 2, 0, 0, 42, 2, 0, 1, 9, 0, 94, 2, 4, 3, 7, 1, 79, 3, 79);
    x = made("dial round 10 2;stuck 4 2 1;figure 9 1;");
    shows(x, 1, 9, 0, 42, 1, 29, 0, 42);
    stands(x, 42, 0, 0, 1);
    x = made("dial stop 10 1;stuck 4 2 1;stuck 0 5 1;clear 1;");
    shows(x, 0, 4, 1, 4, 2, 0, 1, 5);
    x = made("dial round 10 1;stuck 4 2 1;");
    shows(x, 0, 2);
  }

  private static void signsAndIs() {
    String pad = "dial round 10 2;figure 6 1;plus 1;less 1;times 1;is 1;clear 1;now plus 3 1;";

    sentence("Terms 2", "A sign: where one WAITS and a number is TYPED, SHOWN becomes HELD, the sign that WAITS, SHOWN, RECKONED");
    FewKeys x = made(pad);
    shows(x, 0, 6, 1, 6, 0, 6, 3, 12);
    stands(x, 12, 3, 12, 0);
    shows(x, 0, 6, 2, 72, 0, 6, 0, 66, 1, 6);
    stands(x, 6, 1, 6, 0);

    sentence("Terms 2", "then (in any case) SHOWN is HELD, this sign WAITS, nothing is TYPED: none WAITS");
    x = made(pad, 1);
    stands(x, 0, 1, 0, 0);
    x = made(pad, 0, 0, 2);
    stands(x, 66, 2, 66, 0);

    sentence("Terms 2", "then (in any case) SHOWN is HELD, this sign WAITS: one WAITS, nothing is TYPED");
    x = made(pad, 0, 1, 3, 2);
    stands(x, 6, 2, 6, 0);
    x = made(pad, 0, 1, 6, 3);
    stands(x, 9, 3, 9, 0);

    sentence("Terms 2", "is: where a sign WAITS, SHOWN becomes HELD, that sign, SHOWN, RECKONED (TYPED or not)");
    x = made(pad, 0, 3);
    shows(x, 4, 36);
    x = made(pad, 0, 3, 0, 0);
    shows(x, 4, 96);
    x = made(pad, 0, 2, 6);
    shows(x, 4, 97);
    x = made(pad, 0, 0, 2, 0);
    shows(x, 4, 60);

    sentence("Terms 2", "is: nothing WAITS, nothing is TYPED");
    x = made(pad, 0, 1, 0, 4);
    stands(x, 12, 0, 0, 0);
    shows(x, 4, 12, 0, 6);
    x = made(pad, 0, 4);
    stands(x, 6, 0, 0, 0);
    shows(x, 0, 6);

    sentence("Terms 2", "clear: the STATE as at first");
    x = made(pad, 0, 3, 0, 0, 5);
    stands(x, 0, 0, 0, 0);
    x = made(pad, 5);
    stands(x, 0, 0, 0, 0);

    sentence("Terms 2", "now: nothing is TYPED, what WAITS stays");
    x = made(pad, 0, 3, 0, 0, 6);
    stands(x, 69, 3, 6, 0);
    shows(x, 6, 72, 4, 32);
    x = made(pad, 0, 6);
    stands(x, 9, 0, 0, 0);
    shows(x, 0, 6);

    sentence("Terms 2", "SPENT: costs of all STROKES so far");
    x = made("dial round 10 2;figure 6 99;clear 7;");
    due("told(10)", x.told(10), 0);
    shows(x, 0, 6, 1, 0, 1, 0);
    due("told(10): clear leaves it", x.told(10), 113);
    x.drift(999);
    due("told(10) behind drift(999)", x.told(10) > 113 + 999 * 7 && x.told(10) < 113 + 999 * 99 ? 1 : 0, 1);
  }

  // ---- promises 1 to 8

  private static void reckonerCalls() {
    sentence("Promise 1", "No DIAL, no KEYS");
    FewKeys x = new FewKeys();
    for (int what = 0; what <= 12; what++) due("told(" + what + ")", x.told(what), what == 0 ? NONE : 0);
    due("fault()", x.fault(), NONE);
    hasNoDial(x);

    sentence("Promise 2", "Up to eight bytes (n 1 .. 8)");
    x = new FewKeys();
    due("feed(0, 32)", x.feed(0, 32), OUTSIDE);
    due("feed(9, 32)", x.feed(9, 32), OUTSIDE);
    due("feed(-1, 32)", x.feed(-1, 32), OUTSIDE);
    due("feed(-2147483648, 32)", x.feed(LEAST_INT, 32), OUTSIDE);
    due("feed(2147483647, 32)", x.feed(MOST_INT, 32), OUTSIDE);
    due("told(5)", x.told(5), 0);
    int size = 0;
    for (int n = 1; n <= 8; n++) {
      size += n;
      due("feed(" + n + ", 32)", x.feed(n, 32), size);
    }

    sentence("Promise 2", "the highest of these first, come behind THE TEXT");
    x = new FewKeys();
    x.feed(8, 0x6469616c20726f75L);
    x.feed(3, 0xffffffffff6e6420L);
    x.feed(1, 0x8000000000000032L);
    x.feed(2, 0x3b3b3b3b3b3b2031L);
    x.feed(1, -197);
    due("reckoner() of 'dial round 2 1;'", x.reckoner(), 2);
    x.feed(8, 0x80000000000000ffL);
    due("reckoner() of bytes above 127", x.reckoner(), -11);
    due("fault()", x.fault(), 0);

    sentence("Promise 2", "FULL (400)");
    x = new FewKeys();
    feed(x, " ".repeat(399));
    due("feed(2, 32) behind 399", x.feed(2, 32), FULL);
    due("feed(8, 32) behind 399", x.feed(8, 32), FULL);
    due("told(5)", x.told(5), 399);
    due("feed(1, 32) behind 399", x.feed(1, 32), 400);
    due("feed(1, 32) behind 400", x.feed(1, 32), FULL);
    x = new FewKeys();
    feed(x, " ".repeat(392));
    due("feed(8, 32) behind 392", x.feed(8, 32), 400);
    x = new FewKeys();
    feed(x, " ".repeat(393));
    due("feed(8, 32) behind 393", x.feed(8, 32), FULL);
    due("feed(7, 32) behind 393", x.feed(7, 32), 400);

    sentence("Promise 3", "THE TEXT (it is empty then)");
    x = new FewKeys();
    feed(x, "dial stop 2 1;");
    due("reckoner()", x.reckoner(), 2);
    due("told(5)", x.told(5), 0);
    due("feed(1, 32)", x.feed(1, 32), 1);
    feed(x, "dial stop 2 1");
    due("reckoner() with a fault", x.reckoner(), -11);
    due("told(5)", x.told(5), 0);
    due("feed(1, 32)", x.feed(1, 32), 1);

    sentence("Promise 3", "becomes THE RECKONER (the STATE as at first, nothing SPENT, no TARGETS, BOOK");
    x = filled();
    due("reckoner()", x.reckoner(), 3);
    stands(x, 0, 0, 0, 0);
    for (int what = 10; what <= 12; what++) due("told(" + what + ")", x.told(what), 0);
    due("targetAt(0)", x.targetAt(0), UNKNOWN);
    due("judge()", x.judge(), NONE);
    due("told(4)", x.told(4), 1);

    sentence("Promise 3", "IMAGES are gone");
    x = filled();
    x.keep(1);
    x.reckoner();
    due("goBack(0)", x.goBack(0), NOT);
    due("goBack(1)", x.goBack(1), NOT);
    x.keep(0);
    x.reckoner();
    due("goBack(0) behind an empty text", x.goBack(0), NOT);

    sentence("Promise 3", "THE SEED stays");
    x = filled();
    x.reckoner();
    due("seed(0)", x.seed(0), 71);

    sentence("Promise 3", "-10 less the number of its FAULT (all is as it was)");
    for (String text : new String[] {"dial", "dial stop 1 1;", "dial stop 2 1;dial", "dial round 10 2;figure 1 1;clear 2;x"}) {
      x = made("dial stop 2 2;figure 1 3;less 4;", 0, 1);
      targets(x, 3, 2);
      x.write(0, 1);
      x.seed(70);
      x.keep(1);
      x.strike(0);
      String was = all(x).replaceFirst("fault -?[0-9]+", "");
      feed(x, text);
      due("reckoner() of " + text, x.reckoner() <= -11 ? 1 : 0, 1);
      same("behind " + text + " all", all(x).replaceFirst("fault -?[0-9]+", ""), was);
      due("goBack(1)", x.goBack(1), 1);
      stands(x, 1, 2, 1, 0);
    }
    x = new FewKeys();
    feed(x, "x");
    due("reckoner() of 'x'", x.reckoner(), -11);
    feed(x, "dial stop 1");
    due("reckoner() of 'dial stop 1'", x.reckoner(), -12);
    feed(x, "dial stop 2 1;dial");
    due("reckoner() of 'dial stop 2 1;dial'", x.reckoner(), -13);

    sentence("Promise 4", "The byte of the FAULT of the latest reckoner(); NONE");
    x = new FewKeys();
    due("fault() ahead of all", x.fault(), NONE);
    feed(x, "dial stop 2 1;x");
    due("fault() ahead of reckoner()", x.fault(), NONE);
    x.reckoner();
    due("fault()", x.fault(), 14);
    due("fault() again", x.fault(), 14);
    feed(x, "x");
    due("fault() till the next one", x.fault(), 14);
    x.reckoner();
    due("fault() at byte 0", x.fault(), 0);
    x.reckoner();
    due("fault() of an empty text", x.fault(), NONE);
    feed(x, "x");
    x.reckoner();
    feed(x, "dial stop 2 1;");
    x.reckoner();
    due("fault() of a good one", x.fault(), NONE);
  }

  private static void tellings() {
    sentence("Promise 5", "0 KIND of the DIAL (NONE without), 1 B, 2 F (0 without)");
    FewKeys x = made("dial stop 4 3;");
    due("told(0)", x.told(0), 1);
    due("told(1)", x.told(1), 4);
    due("told(2)", x.told(2), 3);
    due("told(3)", x.told(3), 64);
    x.reckoner();
    due("told(0) without", x.told(0), NONE);
    due("told(1) without", x.told(1), 0);
    due("told(2) without", x.told(2), 0);
    due("told(3) without", x.told(3), 0);

    sentence("Promise 5", "7 which sign WAITS (1 plus, 2 less, 3 times; 0 nothing), 8 what is HELD (0: nothing WAITS)");
    x = made("dial stop 10 1;figure 5 1;plus 1;less 1;times 1;is 1;", 0);
    due("told(7)", x.told(7), 0);
    due("told(8)", x.told(8), 0);
    for (int sign = 1; sign <= 3; sign++) {
      x.strike(sign);
      due("told(7)", x.told(7), sign);
      due("told(8)", x.told(8), 5);
    }
    x.strike(4);
    due("told(7) behind is", x.told(7), 0);
    due("told(8) behind is", x.told(8), 0);

    sentence("Promise 5", "told: OUTSIDE");
    x = made("dial stop 2 1;");
    for (int what : new int[] {-1, 13, LEAST_INT, MOST_INT, -1000000002}) due("told(" + what + ")", x.told(what), OUTSIDE);
    due("told(12)", x.told(12), 0);

    sentence("Promise 6", "2 D or N (NONE), 3 E, or the sign of 'now' (1 .. 3; NONE)");
    x = made("dial round 10 2;figure 0 1;is 5;clear 6;now plus 0 7;now less 99 8;now times 1 9;stuck 0 9 1;times 2;");
    int[][] due = {{0, NONE}, {NONE, NONE}, {NONE, NONE}, {0, 1}, {99, 2}, {1, 3}, {0, 9}, {NONE, NONE}};
    for (int k = 0; k < 8; k++) {
      due("key(" + k + ", 2)", x.key(k, 2), due[k][0]);
      due("key(" + k + ", 3)", x.key(k, 3), due[k][1]);
    }

    sentence("Promise 6", "key: UNKNOWN, OUTSIDE");
    x = made("dial round 10 2;is 1;is 1;is 1;is 1;is 1;is 1;is 1;is 1;");
    for (int k : new int[] {-1, 8, 9, LEAST_INT, MOST_INT}) due("key(" + k + ", 0)", x.key(k, 0), UNKNOWN);
    for (int what : new int[] {-1, 4, LEAST_INT, MOST_INT}) due("key(7, " + what + ")", x.key(7, what), OUTSIDE);
    x = made("dial round 10 2;is 1;");
    due("key(1, 0) of one", x.key(1, 0), UNKNOWN);
    feed(x, "dial round 10 2;");
    x.reckoner();
    due("key(0, 0) of none", x.key(0, 0), UNKNOWN);

    sentence("Promise 7", "A STROKE: what is SHOWN. UNKNOWN");
    x = made("dial round 10 2;figure 9 1;clear 1;");
    due("strike(0)", x.strike(0), 9);
    due("strike(1)", x.strike(1), 0);
    for (int k : new int[] {-1, 2, 8, LEAST_INT, MOST_INT}) due("strike(" + k + ")", x.strike(k), UNKNOWN);
    due("told(10)", x.told(10), 2);

    sentence("Promise 8", "The STATE as at first (SPENT stays): what was SHOWN");
    x = made("dial round 10 2;figure 9 40;times 2;", 0, 1, 0, 0);
    due("begin()", x.begin(), 99);
    stands(x, 0, 0, 0, 0);
    due("told(10)", x.told(10), 122);
    due("begin() at first", x.begin(), 0);
    due("strike(0)", x.strike(0), 9);
  }

  // ---- strokes to a number: promises 9 to 13

  private static void strokesToANumber() {
    sentence("Terms 3", "FEWEST: till a number is SHOWN (0, if it is); NONE");
    FewKeys x = made("dial round 10 1;now plus 5 1;figure 3 1;");
    due("fewest(0)", x.fewest(0), 0);
    due("fewest(5)", x.fewest(5), 1);
    due("fewest(8)", x.fewest(8), 2);
    due("fewest(9)", x.fewest(9), NONE);
    x.strike(0);
    due("fewest(5) where it stands", x.fewest(5), 0);
    due("fewest(0) from there", x.fewest(0), 1);
    x = made("dial stop 10 2;now plus 1 1;");
    due("fewest(99): the longest way", x.fewest(99), 99);

    sentence("Promise 9", "fewest: OUTSIDE");
    x = made("dial stop 10 2;now plus 1 1;");
    for (int v : new int[] {-1, 100, LEAST_INT, MOST_INT}) due("fewest(" + v + ")", x.fewest(v), OUTSIDE);

    sentence("Terms 3", "WAY: of all such rows the first (stroke by stroke the lesser KEY)");
    x = made("dial round 10 1;now plus 3 1;now plus 1 9;now plus 2 1;now plus 1 1;");
    due("way(4, 0): 3 1 and 1 3 and 2 2", x.way(4, 0), 0);
    due("way(4, 1): 1 twice", x.way(4, 1), 1);
    due("way(1, 0): the lesser of like ones", x.way(1, 0), 1);

    sentence("Promise 10", "NONE: not so many, no way");
    x = made("dial round 10 1;now plus 3 1;now plus 1 9;now plus 2 1;now plus 1 1;");
    due("way(4, 2)", x.way(4, 2), NONE);
    due("way(4, -1)", x.way(4, -1), NONE);
    due("way(4, 2147483647)", x.way(4, MOST_INT), NONE);
    due("way(4, -2147483648)", x.way(4, LEAST_INT), NONE);
    due("way(0, 0): it is SHOWN", x.way(0, 0), NONE);
    x = made("dial stop 10 2;now plus 1 1;is 1;");
    due("way(99, 98)", x.way(99, 98), 0);
    due("way(99, 99)", x.way(99, 99), NONE);
    x.strike(0);
    due("way(0, 0): no way", x.way(0, 0), NONE);
    due("way(0, 1): no way", x.way(0, 1), NONE);

    sentence("Promise 10", "way: OUTSIDE (v)");
    x = made("dial stop 10 2;now plus 1 1;");
    for (int v : new int[] {-1, 100, LEAST_INT, MOST_INT}) due("way(" + v + ", 0)", x.way(v, 0), OUTSIDE);
    due("way(100, -1)", x.way(100, -1), OUTSIDE);

    sentence("Terms 3", "LEAST: the least cost till it is SHOWN; NONE");
    x = made("dial stop 10 2;now plus 2 99;now plus 1 49;figure 7 1;");
    due("least(0): it is SHOWN", x.least(0), 0);
    due("least(2): two of 49", x.least(2), 98);
    due("least(77)", x.least(77), 2);
    due("least(99)", x.least(99), 2 + 22 * 49);
    x.strike(2);
    due("least(7) where it stands", x.least(7), 0);
    due("least(0): no way", x.least(0), NONE);
    x = made("dial stop 10 2;now plus 1 99;");
    due("least(99): the dearest way", x.least(99), 99 * 99);
    x = made("dial round 10 2;figure 2 1;figure 4 1;plus 1;less 1;times 1;is 1;clear 1;now plus 1 99;");
    due("least(1): behind all STATES of even numbers", x.least(1), 99);
    due("least(98): 0 less 2, is", x.least(98), 3);
    x = made("dial round 10 2;figure 0 1;figure 2 1;figure 4 1;plus 1;less 1;times 1;now plus 2 1;now plus 1 99;");
    due("least(1): behind some 8,900 STATES, seven STROKES of each", x.least(1), 99);

    sentence("Promise 11", "least: OUTSIDE");
    x = made("dial stop 10 2;now plus 1 1;");
    for (int v : new int[] {-1, 100, LEAST_INT, MOST_INT}) due("least(" + v + ")", x.least(v), OUTSIDE);

    sentence("Promise 12", "NEVER: i = NONE how many, else the i-th; NONE: not so many");
    x = made("dial stop 10 1;now plus 3 1;");
    due("never(-1): but 0 3 6 9", x.never(NONE), 6);
    int[] never = {1, 2, 4, 5, 7, 8, NONE, NONE};
    for (int i = 0; i < never.length; i++) due("never(" + i + ")", x.never(i), never[i]);
    for (int i : new int[] {-2, LEAST_INT, MOST_INT}) due("never(" + i + ")", x.never(i), NONE);
    x.strike(0);
    due("never(-1) from 3", x.never(NONE), 7);
    due("never(0) from 3", x.never(0), 0);
    x = made("dial round 10 1;now plus 3 1;");
    due("never(-1): all come", x.never(NONE), 0);
    due("never(0): all come", x.never(0), NONE);
    x = made("dial round 10 2;");
    due("never(-1) without keys: all but what is SHOWN", x.never(NONE), 99);
    due("never(98) without keys", x.never(98), 99);
    due("never(99) without keys", x.never(99), NONE);
    x = new FewKeys();
    due("never(-1) without a dial", x.never(NONE), 0);
    due("never(0) without a dial", x.never(0), NONE);

    sentence("Terms 3", "FARTHEST: (of those that ever are; of like ones the least)");
    x = made("dial stop 10 1;figure 8 1;figure 2 1;figure 5 1;");
    due("farthest(0): 2 5 8 are like", x.farthest(0), 2);
    due("farthest(1)", x.farthest(1), 1);
    x.strike(1);
    due("farthest(0): 2 stays for good", x.farthest(0), 2);
    due("farthest(1): nothing else ever is", x.farthest(1), 0);
    x = made("dial stop 10 1;figure 1 1;");
    due("farthest(0): 0 is SHOWN, 1 the only other", x.farthest(0), 1);
    x.strike(0);
    due("farthest(0): 1 is SHOWN, 11 is too many", x.farthest(0), 1);
    due("farthest(1)", x.farthest(1), 0);
    x = made("dial stop 10 2;now plus 1 1;");
    due("farthest(0): the last", x.farthest(0), 99);
    due("farthest(1): the last", x.farthest(1), 99);
    x = made("dial stop 10 2;");
    due("farthest(0) without keys", x.farthest(0), 0);
    due("farthest(1) without keys", x.farthest(1), 0);

    sentence("Promise 13", "farthest: OUTSIDE, NOT: no DIAL");
    x = made("dial stop 10 2;now plus 1 1;");
    for (int what : new int[] {-1, 2, LEAST_INT, MOST_INT}) due("farthest(" + what + ")", x.farthest(what), OUTSIDE);
    x.reckoner();
    due("farthest(0)", x.farthest(0), NOT);
    due("farthest(1)", x.farthest(1), NOT);
  }

  // ---- targets: promises 14 to 19

  private static void targetCalls() {
    sentence("Promise 14", "A TARGET more: how many. OUTSIDE, FULL (6)");
    FewKeys x = made("dial stop 10 2;");
    for (int v : new int[] {-1, 100, LEAST_INT, MOST_INT}) due("target(" + v + ")", x.target(v), OUTSIDE);
    due("told(11)", x.told(11), 0);
    int[] six = {0, 99, 7, 7, 50, 1};
    for (int i = 0; i < 6; i++) due("target(" + six[i] + ")", x.target(six[i]), i + 1);
    due("target(3)", x.target(3), FULL);
    due("target(0)", x.target(0), FULL);
    due("told(11)", x.told(11), 6);

    sentence("Promise 15", "TARGET i; UNKNOWN");
    x = made("dial stop 10 2;");
    targets(x, six);
    for (int i = 0; i < 6; i++) due("targetAt(" + i + ")", x.targetAt(i), six[i]);
    for (int i : new int[] {-1, 6, LEAST_INT, MOST_INT}) due("targetAt(" + i + ")", x.targetAt(i), UNKNOWN);
    x = made("dial stop 10 2;");
    due("targetAt(0) of none", x.targetAt(0), UNKNOWN);
    x.target(4);
    due("targetAt(0) of one", x.targetAt(0), 4);
    due("targetAt(1) of one", x.targetAt(1), UNKNOWN);

    sentence("Promise 16", "No TARGETS: how many there were");
    x = made("dial stop 10 2;");
    due("forget() of none", x.forget(), 0);
    for (int i = 0; i < 6; i++) x.target(i);
    due("forget() of six", x.forget(), 6);
    due("told(11)", x.told(11), 0);
    due("targetAt(0)", x.targetAt(0), UNKNOWN);
    due("forget() again", x.forget(), 0);
    due("target(9)", x.target(9), 1);
    due("targetAt(0)", x.targetAt(0), 9);

    sentence("Promise 18", "LIST; NONE: no TARGETS at all");
    due("list() of none", made("dial stop 10 2;is 1;").list(), 0);
    due("list() without keys", made("dial stop 10 2;").list(), 0);

    sentence("Terms 3", "LIST: all TARGETS are SHOWN one behind the other in order");
    x = made("dial round 10 1;now plus 1 1;");
    targets(x, 3, 1);
    due("3 1: once round", x.list(), 11);
    targets(x, 1, 3);
    due("1 3", x.list(), 3);
    targets(x, 9, 8, 7, 6, 5, 4);
    due("9 8 7 6 5 4", x.list(), 54);
    targets(x, 0, 1);
    due("0 is SHOWN", x.list(), 1);

    sentence("Terms 3", "LIST: (like ones side by side at once)");
    x = made("dial round 10 1;now plus 1 1;");
    targets(x, 2, 2, 2);
    due("2 2 2", x.list(), 2);
    targets(x, 2, 2, 3, 3, 2, 2);
    due("2 2 3 3 2 2", x.list(), 12);
    targets(x, 0, 0, 0, 0, 0, 0);
    due("0 six times", x.list(), 0);
    targets(x, 2, 3, 2);
    due("2 3 2: not side by side", x.list(), 12);

    sentence("Terms 3", "LIST; NONE: one cannot come");
    x = made("dial stop 10 1;now plus 2 1;");
    targets(x, 2, 8);
    due("2 8", x.list(), 4);
    targets(x, 2, 8, 2);
    due("2 8 2", x.list(), NONE);
    targets(x, 1);
    due("1", x.list(), NONE);
    targets(x, 1, 2);
    due("1 2", x.list(), NONE);
    x = made("dial stop 10 1;");
    targets(x, 0, 0);
    due("0 0 without keys", x.list(), 0);
    targets(x, 0, 1);
    due("0 1 without keys", x.list(), NONE);
  }

  private static void more(FewKeys x, int kind, int figure, int together) {
    due("more(0)", x.more(0), kind);
    due("more(1)", x.more(1), figure);
    due("more(2)", x.more(2), together);
  }

  private static void mores() {
    sentence("Terms 3", "KEY MORE: of figures 0 to B less 1");
    FewKeys x = made("dial round 3 2;");
    targets(x, 2, 8);
    more(x, 0, 2, 3);
    targets(x, 0, 4);
    more(x, 0, 1, 2);
    x = made("dial round 10 2;");
    targets(x, 9, 99);
    more(x, 0, 9, 3);

    sentence("Terms 3", "KEY MORE: then plus, less, times, is");
    x = made("dial round 10 2;stuck 4 2 1;is 1;");
    targets(x, 84);
    more(x, 1, NONE, 3);
    targets(x, 58);
    more(x, 2, NONE, 3);
    targets(x, 64);
    more(x, 3, NONE, 3);
    x = made("dial round 10 2;stuck 4 2 1;plus 1;");
    targets(x, 84);
    more(x, 4, NONE, 3);

    sentence("Terms 3", "KEY MORE: (what there is already, too)");
    x = made("dial round 10 2;figure 0 1;figure 7 1;");
    more(x, 0, 0, 0);
    targets(x, 77);
    more(x, 0, 0, 2);
    x = made("dial stop 2 1;figure 0 1;figure 1 1;plus 1;less 1;times 1;is 1;", 1);
    targets(x, 0);
    more(x, 0, 0, 2);

    sentence("Terms 3", "as one KEY more: a ninth");
    x = made("dial round 10 2;clear 1;clear 1;clear 1;clear 1;clear 1;clear 1;clear 1;clear 1;");
    targets(x, 6, 66);
    more(x, 0, 6, 3);
    due("told(4): it is not there", x.told(4), 8);
    due("strike(8): it is not there", x.strike(8), UNKNOWN);
    due("fewest(6): it is not there", x.fewest(6), NONE);

    sentence("Terms 3", "KEY MORE: (NONE counts 99)");
    x = made("dial stop 10 2;");
    targets(x, 12, 34, 56, 78, 90, 21);
    more(x, 0, 0, 594);
    targets(x, 12, 34, 55);
    more(x, 0, 5, 200);
    targets(x, 12);
    more(x, 0, 0, 99);

    sentence("Terms 3", "KEY MORE: FEWEST of all TARGETS together is least; of like ones the first");
    x = made("dial stop 10 2;");
    targets(x, 8, 3);
    more(x, 0, 3, 100);
    targets(x, 8, 3, 8);
    more(x, 0, 8, 101);
    targets(x, 8, 3, 0);
    more(x, 0, 3, 100);
    targets(x);
    more(x, 0, 0, 0);
    targets(x, 0);
    more(x, 0, 0, 0);

    sentence("Promise 17", "more: OUTSIDE, NOT: no DIAL");
    x = made("dial stop 10 2;");
    for (int what : new int[] {-1, 3, LEAST_INT, MOST_INT}) due("more(" + what + ")", x.more(what), OUTSIDE);
    x.reckoner();
    for (int what = 0; what <= 2; what++) due("more(" + what + ") without", x.more(what), NOT);
  }

  private static void quicks() {
    sentence("Promise 19", "QUICK (p 0 .. 999, e 0 .. 999); OUTSIDE");
    FewKeys x = made("dial stop 10 2;figure 9 1;");
    due("quick(0, 0)", x.quick(0, 0), 0);
    due("quick(999, 999)", x.quick(999, 999), 0);
    due("quick(0, 999)", x.quick(0, 999), 0);
    due("quick(999, 0)", x.quick(999, 0), NONE);
    for (int n : new int[] {-1, 1000, LEAST_INT, MOST_INT}) {
      due("quick(" + n + ", 0)", x.quick(n, 0), OUTSIDE);
      due("quick(0, " + n + ")", x.quick(0, n), OUTSIDE);
      due("quick(" + n + ", " + n + ")", x.quick(n, n), OUTSIDE);
    }

    sentence("Terms 3", "QUICK: of numbers of the DIAL that are e or less from p");
    x = made("dial stop 10 2;figure 9 1;");
    due("quick(8, 0)", x.quick(8, 0), NONE);
    due("quick(8, 1)", x.quick(8, 1), 9);
    due("quick(10, 1)", x.quick(10, 1), 9);
    due("quick(11, 1)", x.quick(11, 1), NONE);
    due("quick(199, 99)", x.quick(199, 99), NONE);
    due("quick(199, 100)", x.quick(199, 100), 99);
    due("quick(999, 899)", x.quick(999, 899), NONE);
    due("quick(999, 900)", x.quick(999, 900), 99);
    due("quick(999, 989)", x.quick(999, 989), 99);
    due("quick(999, 990)", x.quick(999, 990), 9);
    due("quick(999, 998)", x.quick(999, 998), 9);

    sentence("Terms 3", "QUICK: that of the fewest FEWEST, then the nearest, then the least; NONE");
    x = made("dial stop 10 2;figure 4 1;figure 6 1;now plus 1 1;");
    due("quick(5, 1): 4 and 6 by one, 5 by two", x.quick(5, 1), 4);
    due("quick(5, 0)", x.quick(5, 0), 5);
    due("quick(6, 2): 6 is nearer", x.quick(6, 2), 6);
    due("quick(45, 1): 44 and 46 by two", x.quick(45, 1), 44);
    due("quick(55, 9): 46 and 64 by two, as near", x.quick(55, 9), 46);
    due("quick(56, 10): 64 is nearer", x.quick(56, 10), 64);
    due("quick(5, 5): 0 by none", x.quick(5, 5), 0);
    x = made("dial round 10 1;now plus 4 1;");
    due("quick(7, 0): it never comes", x.quick(7, 0), NONE);
    due("quick(7, 1): 8 by two, 6 by four", x.quick(7, 1), 8);
    due("quick(1, 1) without a dial", new FewKeys().quick(1, 1), NONE);
    due("quick(999, 999) without a dial", new FewKeys().quick(999, 999), NONE);
  }

  // ---- what was struck: promises 20 to 22

  private static void strucks() {
    sentence("Terms 3", "STRUCK: n STROKES (0 .. 8)");
    FewKeys x = made("dial stop 10 1;now plus 1 1;is 1;");
    due("struck(0, 0, 0): the row of none", x.struck(0, 0, 0), 1);
    due("struck(0, 1, 0)", x.struck(0, 1, 0), 0);
    due("struck(8, 8, 0)", x.struck(8, 8, 0), 1);
    due("struck(8, 4, 0): 4 of 8", x.struck(8, 4, 0), 70);
    due("struck(8, 9, 0)", x.struck(8, 9, 0), 0);
    for (int n : new int[] {-1, 9, LEAST_INT, MOST_INT}) due("struck(" + n + ", 0, 0)", x.struck(n, 0, 0), OUTSIDE);

    sentence("Terms 3", "STRUCK: how many rows of KEYS");
    x = made("dial stop 2 1;is 1;is 1;is 1;is 1;is 1;is 1;is 1;is 1;");
    int rows = 1;
    for (int n = 0; n <= 8; n++, rows *= 8) due("struck(" + n + ", 0, 0)", x.struck(n, 0, 0), rows);
    x = made("dial stop 2 1;");
    due("struck(0, 0, 0) without keys", x.struck(0, 0, 0), 1);
    due("struck(1, 0, 0) without keys", x.struck(1, 0, 0), 0);
    due("struck(8, 0, 0) without keys", x.struck(8, 0, 0), 0);

    sentence("Terms 3", "STRUCK: KEYS that are in each of these (a SET; 0 without)");
    x = made("dial stop 10 1;now plus 1 1;is 1;");
    due("struck(8, 8, 1)", x.struck(8, 8, 1), 1);
    due("struck(8, 4, 1)", x.struck(8, 4, 1), 3);
    due("struck(8, 0, 1)", x.struck(8, 0, 1), 2);
    due("struck(8, 9, 1): no rows", x.struck(8, 9, 1), 0);
    due("struck(0, 0, 1): the row of none", x.struck(0, 0, 1), 0);
    due("struck(0, 1, 1): no rows", x.struck(0, 1, 1), 0);
    due("struck(8, 0, 1) of one key", made("dial stop 2 1;is 1;").struck(8, 0, 1), 1);
    due("struck(1, 0, 1) of like keys", made("dial stop 2 1;is 1;is 1;").struck(1, 0, 1), 0);
    due("struck(1, 0, 1) without keys", made("dial stop 2 1;").struck(1, 0, 1), 0);

    sentence("Promise 20", "struck: OUTSIDE");
    x = made("dial stop 10 1;now plus 1 1;is 1;");
    for (int v : new int[] {-1, 10, LEAST_INT, MOST_INT}) due("struck(1, " + v + ", 0)", x.struck(1, v, 0), OUTSIDE);
    for (int what : new int[] {-1, 2, LEAST_INT, MOST_INT}) due("struck(1, 0, " + what + ")", x.struck(1, 0, what), OUTSIDE);
    due("struck(0, 0, 0) without a dial", new FewKeys().struck(0, 0, 0), OUTSIDE);
  }

  private static void losts() {
    sentence("Terms 3", "LOST: the fewest STROKES, 1 to 4; NONE");
    int[] due = {2, 3, 4, NONE, NONE};
    for (int n = 0; n < due.length; n++) {
      FewKeys x = made("dial stop 10 1;now plus 1 1;clear 1;now less " + n + " 1;");
      due("lost(6), less " + n + ": known where " + (n + 1) + " is SHOWN", x.lost(6), due[n]);
      x.strike(0);
      due("lost(6), less " + n + ", from 1", x.lost(6), n == 4 ? NONE : n + 1);
    }
    FewKeys x = made("dial stop 10 2;figure 3 1;less 1;times 1;");
    due("lost(6): 3 x 3 x", x.lost(6), 4);
    due("lost(3): a figure is known at once", x.lost(3), 1);

    sentence("Terms 3", "LOST: SHOWN being read behind each");
    x = made("dial round 10 1;now plus 1 1;now plus 3 1;clear 1;");
    due("lost(3)", x.lost(3), 1);
    x = made("dial round 2 1;now plus 1 1;is 1;figure 1 1;clear 1;");
    due("lost(7), x x: 1 0, 0 0, 1 1; two numbers tell three keys by two readings", x.lost(7), 2);
    due("lost(15), x, figure 1, x: 1 1 0, 0 1 1, 1 1 1, 0 1 0", x.lost(15), 3);

    x = made("dial stop 10 2;plus 1;now plus 98 1;is 1;");
    due("lost(7), now, x, is: 98 98 99, 98 99 99, 98 98 98; the highest numbers", x.lost(7), 3);

    sentence("Terms 3", "LOST: it is known as which one it does, whichever it is");
    x = made("dial stop 10 1;figure 1 1;figure 2 1;figure 1 7;is 1;");
    due("lost(3)", x.lost(3), 1);
    due("lost(5): they do the same", x.lost(5), NONE);
    due("lost(7): two of three do the same", x.lost(7), NONE);
    x = made("dial stop 10 1;plus 1;less 1;");
    due("lost(3): nothing is ever SHOWN", x.lost(3), NONE);

    sentence("Promise 21", "by a SET of KEYS (2 or more); UNKNOWN (bits), OUTSIDE (fewer)");
    x = made("dial stop 10 1;figure 1 1;figure 2 1;figure 3 1;");
    for (int set : new int[] {0, 1, 2, 4}) due("lost(" + set + ")", x.lost(set), OUTSIDE);
    for (int set : new int[] {3, 5, 6, 7}) due("lost(" + set + ")", x.lost(set), 1);
    for (int set : new int[] {8, 9, 15, 256, 1 << 30, LEAST_INT, LEAST_INT | 3, MOST_INT, -1, -8}) {
      due("lost(" + set + ")", x.lost(set), UNKNOWN);
    }
    x = made("dial round 10 1;figure 1 1;figure 2 1;figure 3 1;figure 4 1;figure 5 1;figure 6 1;figure 7 1;figure 8 1;");
    due("lost(255) of eight", x.lost(255), 1);
    due("lost(256) of eight", x.lost(256), UNKNOWN);
    due("lost(511) of eight", x.lost(511), UNKNOWN);
    x = new FewKeys();
    due("lost(0) without keys", x.lost(0), OUTSIDE);
    due("lost(3) without keys", x.lost(3), UNKNOWN);
  }

  private static void games() {
    sentence("Terms 3", "GAME: two strike by turns, n STROKES (0 .. 6) in all");
    FewKeys x = made("dial stop 10 1;now plus 1 1;");
    int[] whoSix = {0, 1, -1, 1, -1, 1, -1, 0, 0, 0};
    for (int v = 1; v < 10; v++) due("game(" + v + ", 6, 0)", x.game(v, 6, 0), whoSix[v]);
    due("game(6, 5, 0): too late", x.game(6, 5, 0), 0);
    due("game(1, 0, 0)", x.game(1, 0, 0), 0);
    for (int n : new int[] {-1, 7, LEAST_INT, MOST_INT}) due("game(1, " + n + ", 0)", x.game(1, n, 0), OUTSIDE);

    sentence("Terms 3", "GAME: (by a STROKE; what it shows now does not count)");
    x = made("dial stop 10 1;now plus 1 1;");
    due("game(0, 6, 0)", x.game(0, 6, 0), 0);
    x = made("dial round 2 1;now plus 1 1;");
    due("game(0, 1, 0): it shows 1 then", x.game(0, 1, 0), 0);
    due("game(0, 2, 0): the other one shows 0", x.game(0, 2, 0), -1);
    x = made("dial round 2 1;is 1;");
    due("game(0, 1, 0): 0 by a stroke", x.game(0, 1, 0), 1);

    sentence("Terms 3", "GAME: 1 the first one can, -1 the other one can, 0 neither");
    x = made("dial round 10 2;now plus 1 1;now plus 2 1;");
    int[] who = {0, 1, 1, -1, 1, 1, -1, 1, 1, -1, 0};
    for (int v = 1; v <= 10; v++) due("game(" + v + ", 6, 0)", x.game(v, 6, 0), who[v]);
    due("game(9, 5, 0): five strokes are too few for the other one", x.game(9, 5, 0), 0);

    sentence("Terms 3", "GAME: the KEY with which the first one has what it can have: the least");
    x = made("dial round 10 2;now plus 1 1;now plus 2 1;");
    int[] key = {0, 0, 1, 0, 0, 1, 0, 0, 1, 0, 0};
    for (int v = 1; v <= 8; v++) due("game(" + v + ", 6, 1)", x.game(v, 6, 1), key[v]);
    due("game(3, 2, 1): all lose", x.game(3, 2, 1), 0);
    due("game(2, 2, 1): only 2 wins", x.game(2, 2, 1), 1);
    x = made("dial round 10 2;now plus 2 1;now plus 5 1;now plus 5 1;now plus 3 1;");
    due("game(5, 1, 1): of like ones the least", x.game(5, 1, 1), 1);
    due("game(7, 2, 1): 2 and 5 lose, 3 does not", x.game(7, 2, 1), 3);
    due("game(7, 2, 0)", x.game(7, 2, 0), 0);

    sentence("Promise 22", "what = 0 who (0 without STROKES, KEYS), 1 the KEY: NONE without STROKES, KEYS");
    x = made("dial round 10 2;now plus 2 1;now plus 5 1;");
    due("game(5, 0, 0) without strokes", x.game(5, 0, 0), 0);
    due("game(5, 0, 1) without strokes", x.game(5, 0, 1), NONE);
    due("game(0, 0, 1) without strokes", x.game(0, 0, 1), NONE);
    x = made("dial round 10 2;");
    due("game(0, 6, 0) without keys", x.game(0, 6, 0), 0);
    due("game(0, 6, 1) without keys", x.game(0, 6, 1), NONE);
    due("game(99, 0, 1) without both", x.game(99, 0, 1), NONE);

    sentence("Promise 22", "game: OUTSIDE");
    x = made("dial round 10 2;now plus 2 1;");
    for (int v : new int[] {-1, 100, LEAST_INT, MOST_INT}) due("game(" + v + ", 1, 0)", x.game(v, 1, 0), OUTSIDE);
    for (int what : new int[] {-1, 2, LEAST_INT, MOST_INT}) due("game(0, 1, " + what + ")", x.game(0, 1, what), OUTSIDE);
    due("game(0, 0, 0) without a dial", new FewKeys().game(0, 0, 0), OUTSIDE);
  }

  // ---- books, draws, images: promises 23 to 29

  private static void books() {
    sentence("Promise 23", "An entry behind THE BOOK: how many. UNKNOWN, OUTSIDE");
    FewKeys x = made("dial stop 10 1;now plus 1 1;");
    for (int k : new int[] {-1, 1, 8, LEAST_INT, MOST_INT}) due("write(" + k + ", 0)", x.write(k, 0), UNKNOWN);
    for (int v : new int[] {-1, 10, LEAST_INT, MOST_INT}) due("write(0, " + v + ")", x.write(0, v), OUTSIDE);
    due("told(12)", x.told(12), 0);
    due("write(0, 0)", x.write(0, 0), 1);
    due("write(0, 9)", x.write(0, 9), 2);
    due("told(12)", x.told(12), 2);

    sentence("Promise 23", "FULL (40)");
    x = made("dial stop 10 1;now plus 1 1;is 1;");
    for (int i = 1; i <= 40; i++) due("write(0, ..)", x.write(0, Math.min(i, 9)), i);
    due("write(0, 9)", x.write(0, 9), FULL);
    due("write(1, 0)", x.write(1, 0), FULL);
    due("told(12)", x.told(12), 40);
    due("judge(): all forty are so", x.judge(), NONE);
    x.tear();
    for (int i = 1; i <= 39; i++) x.write(0, Math.min(i, 9));
    due("write(0, 8), the fortieth", x.write(0, 8), 40);
    due("judge(): the fortieth", x.judge(), 39);

    sentence("Promise 24", "THE BOOK is empty: how many entries it had");
    x = made("dial stop 10 1;now plus 1 1;is 1;");
    for (int i = 1; i <= 40; i++) x.write(0, 3);
    due("tear() of forty", x.tear(), 40);
    due("told(12)", x.told(12), 0);
    due("judge()", x.judge(), NONE);
    due("tear() of none", x.tear(), 0);
    due("write(0, 1)", x.write(0, 1), 1);
    due("tear() of one", x.tear(), 1);

    sentence("Terms 3", "THE BOOK is tried from the STATE that is: WRONG: the first that is not so; NONE");
    x = made("dial stop 10 1;now plus 1 1;");
    due("judge() of none", x.judge(), NONE);
    x.write(0, 1);
    x.write(0, 2);
    due("judge() of two that are so", x.judge(), NONE);
    x.write(0, 4);
    x.write(0, 3);
    due("judge(): the third, and the fourth", x.judge(), 2);
    x.strike(0);
    due("judge() from 1", x.judge(), 0);
    due("told(6): nothing is struck", x.told(6), 1);
    due("judge() without a dial", new FewKeys().judge(), NONE);
  }

  private static void draws() {
    String keys = "dial round 10 2;now plus 1 1;now plus 2 2;now plus 3 3;now plus 4 4;now plus 5 5;now plus 6 6;now plus 7 7;";

    sentence("Promise 26", "n STROKES (1 .. 999) BY DRAWS. OUTSIDE, NOT: no KEYS");
    FewKeys x = made(keys);
    for (int n : new int[] {0, -1, 1000, LEAST_INT, MOST_INT}) due("drift(" + n + ")", x.drift(n), OUTSIDE);
    due("drift(1)", x.drift(1), 1);
    due("told(10)", x.told(10), 1);
    x = made("dial round 2 1;is 1;");
    due("drift(999)", x.drift(999), 0);
    due("told(10)", x.told(10), 999);
    x = made("dial round 2 1;");
    due("drift(1) without keys", x.drift(1), NOT);
    due("drift(999) without keys", x.drift(999), NOT);
    due("seed(0): nothing was drawn", x.seed(0), 0);
    due("drift(1) without a dial", new FewKeys().drift(1), NOT);

    sentence("Terms 3", "THE SEED (0 at first)");
    due("seed(1)", new FewKeys().seed(1), 0);
    x = made(keys);
    x.drift(1);
    due("seed(1) behind one draw", x.seed(1), 12345);

    sentence("Terms 3", "it becomes it times 1103515245 and 12345, left over by 2 to the 31; the DRAW of n is it / 65536, left over by n");
    for (int start : new int[] {0, 1, 2, 65535, 65536, 1073741824, 2147483646, 2147483647}) {
      x = made(keys);
      x.seed(start);
      BigInteger seed = BigInteger.valueOf(start);
      int shown = 0;
      for (int i = 0; i < 40; i++) {
        seed = seed.multiply(BigInteger.valueOf(1103515245)).add(BigInteger.valueOf(12345)).mod(BigInteger.TWO.pow(31));
        shown = (shown + 1 + seed.divide(BigInteger.valueOf(65536)).intValue() % 7) % 100;
      }
      due("drift(40) from " + start, x.drift(40), shown);
      due("seed(0) from " + start, x.seed(0), seed.intValue());
    }

    sentence("Promise 27", "THE SEED becomes v (0 .. 2147483647): what it was. OUTSIDE");
    x = new FewKeys();
    due("seed(2147483647)", x.seed(MOST_INT), 0);
    due("seed(-1)", x.seed(-1), OUTSIDE);
    due("seed(-2147483648)", x.seed(LEAST_INT), OUTSIDE);
    due("seed(0)", x.seed(0), MOST_INT);
    due("seed(0)", x.seed(0), 0);
  }

  private static void images() {
    sentence("Promise 28", "IMAGE i becomes what is so: 1. UNKNOWN");
    FewKeys x = made("dial round 10 2;figure 3 5;plus 1;");
    for (int i : new int[] {-1, 2, LEAST_INT, MOST_INT}) due("keep(" + i + ")", x.keep(i), UNKNOWN);
    due("goBack(0): none is kept", x.goBack(0), NOT);
    due("goBack(1): none is kept", x.goBack(1), NOT);
    due("keep(0)", x.keep(0), 1);
    due("keep(1)", x.keep(1), 1);
    due("keep(1) again", x.keep(1), 1);
    due("keep(0) without a dial", new FewKeys().keep(0), 1);

    sentence("Promise 29", "What is so becomes IMAGE i: 1. UNKNOWN, NOT: it was not kept");
    x = made("dial round 10 2;figure 3 5;plus 1;", 0);
    for (int i : new int[] {-1, 2, LEAST_INT, MOST_INT}) due("goBack(" + i + ")", x.goBack(i), UNKNOWN);
    x.keep(1);
    due("goBack(0)", x.goBack(0), NOT);
    x.strike(0);
    due("goBack(1)", x.goBack(1), 1);
    due("told(6)", x.told(6), 3);
    due("goBack(1): it stays kept", x.goBack(1), 1);

    sentence("Terms 3", "IMAGES 0, 1 keep the STATE, what is SPENT, TARGETS, THE SEED");
    x = made("dial round 10 2;figure 3 5;plus 1;", 0, 1, 0, 0);
    targets(x, 9, 8, 7, 6, 5, 4);
    x.seed(21);
    x.keep(0);
    x.begin();
    x.strike(0);
    targets(x, 1);
    x.seed(22);
    x.keep(1);
    x.drift(500);
    x.forget();
    x.goBack(0);
    stands(x, 33, 1, 3, 1);
    due("told(10) of 0", x.told(10), 16);
    due("told(11) of 0", x.told(11), 6);
    for (int i = 0; i < 6; i++) due("targetAt(" + i + ") of 0", x.targetAt(i), 9 - i);
    due("target(0): six are six", x.target(0), FULL);
    due("seed(5) of 0", x.seed(5), 21);
    x.goBack(1);
    stands(x, 3, 0, 0, 1);
    due("told(10) of 1", x.told(10), 21);
    due("told(11) of 1", x.told(11), 1);
    due("targetAt(0) of 1", x.targetAt(0), 1);
    due("targetAt(1) of 1", x.targetAt(1), UNKNOWN);
    due("seed(5) of 1", x.seed(5), 22);

    sentence("Terms 3", "IMAGES keep no more than that: THE BOOK, THE TEXT stay");
    x = made("dial round 10 2;figure 3 5;plus 1;");
    x.write(0, 3);
    x.keep(0);
    x.write(0, 33);
    feed(x, "dial");
    x.goBack(0);
    due("told(12)", x.told(12), 2);
    due("told(5)", x.told(5), 4);

    sentence("Terms 3", "IMAGES are as they were kept, whatever comes then");
    x = made("dial round 10 2;figure 3 5;plus 1;");
    targets(x, 2);
    x.keep(0);
    x.goBack(0);
    x.target(3);
    x.strike(0);
    x.seed(9);
    x.goBack(0);
    stands(x, 0, 0, 0, 0);
    due("told(10)", x.told(10), 0);
    due("told(11)", x.told(11), 1);
    due("seed(0)", x.seed(0), 0);
  }

  public static void main(String[] args) {
    terms();
    refusals();
    fromTheStateThatIs();
    dials();
    keysInText();
    signs();
    faults();
    states();
    figures();
    signsAndIs();
    reckonerCalls();
    tellings();
    strokesToANumber();
    targetCalls();
    mores();
    quicks();
    strucks();
    losts();
    games();
    books();
    draws();
    images();
    if (asked == 0) tell("nothing is asked");
    System.out.println(wrong == 0 ? "all of " + sentences + " sentences hold" : wrong + " answers are not as due");
    if (wrong != 0) System.exit(1);
  }
}
