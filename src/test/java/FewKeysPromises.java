/** Promise by promise: ordinary inputs, the edges that the document names, wrong inputs; answers reckoned by hand. */
public final class FewKeysPromises {
  private static final int NONE = -1, UNKNOWN = -1000000001, OUTSIDE = -1000000002, NOT = -1000000003, FULL = -1000000004;
  private static final int[] WRONG = {Integer.MIN_VALUE, -1000000001, -2, 1000, Integer.MAX_VALUE};

  private static int wrong = 0;
  private static int promise = 0;

  private static void due(String call, int got, int want) {
    if (got != want) {
      wrong++;
      System.out.println("promise " + promise + ": " + call + " answered " + got + ", due is " + want);
    }
  }

  private static void feed(FewKeys x, String text) {
    for (int i = 0; i < text.length(); i += 8) {
      int n = Math.min(8, text.length() - i);
      long bytes = 0;
      for (int j = 0; j < n; j++) bytes = bytes << 8 | text.charAt(i + j);
      x.feed(n, bytes);
    }
  }

  private static FewKeys made(String text) {
    FewKeys x = new FewKeys();
    feed(x, text);
    due("reckoner() of " + text, x.reckoner() < 0 ? 0 : 1, 1);
    return x;
  }

  private static void strikes(FewKeys x, int... keys) {
    for (int k : keys) x.strike(k);
  }

  /** SHOWN, the sign that WAITS, HELD, TYPED. */
  private static void stands(FewKeys x, String when, int shown, int sign, int held, int typed) {
    due("told(6) " + when, x.told(6), shown);
    due("told(7) " + when, x.told(7), sign);
    due("told(8) " + when, x.told(8), held);
    due("told(9) " + when, x.told(9), typed);
  }

  private static void newObject() {
    promise = 1;
    FewKeys x = new FewKeys();
    int[] due = {NONE, 0, 0, 0, 0, 0, 0, 0, 0, 0, 0, 0, 0};
    for (int what = 0; what < due.length; what++) due("told(" + what + ")", x.told(what), due[what]);
    due("fault()", x.fault(), NONE);
    due("key(0, 0)", x.key(0, 0), UNKNOWN);
    due("strike(0)", x.strike(0), UNKNOWN);
    due("target(0)", x.target(0), OUTSIDE);
    due("write(0, 0)", x.write(0, 0), UNKNOWN);
    due("keep(0)", x.keep(0), 1);
    due("goBack(0)", x.goBack(0), 1);
    due("goBack(1)", x.goBack(1), NOT);
    due("seed(5)", x.seed(5), 0);
    due("never(-1)", x.never(-1), 0);
    due("lost(1)", x.lost(1), UNKNOWN);
  }

  private static void feeding() {
    promise = 2;
    FewKeys x = new FewKeys();
    due("feed(0, 0)", x.feed(0, 0), OUTSIDE);
    due("feed(9, 0)", x.feed(9, 0), OUTSIDE);
    for (int n : WRONG) due("feed(" + n + ", 0)", x.feed(n, 0), OUTSIDE);
    due("told(5)", x.told(5), 0);
    due("feed(4, dial)", x.feed(4, 0x7fff_ffff_6469_616cL), 4);
    due("feed(8, ' round 2')", x.feed(8, 0x20726f756e642032L), 12);
    due("feed(3, ' 1;')", x.feed(3, -1L << 24 | 0x20313bL), 15);
    due("reckoner()", x.reckoner(), 2);
    for (int i = 1; i <= 49; i++) due("feed(8, ..)", x.feed(8, 0x2020202020202020L), 8 * i);
    due("feed(7, ..)", x.feed(7, 0), 399);
    due("feed(2, ..)", x.feed(2, 0), FULL);
    due("feed(9, ..)", x.feed(9, 0), OUTSIDE);
    due("told(5)", x.told(5), 399);
    due("feed(1, ..)", x.feed(1, 0), 400);
    due("feed(1, ..)", x.feed(1, 0), FULL);
    due("reckoner()", x.reckoner(), -11);
    due("fault()", x.fault(), 392);
    due("feed(1, ..)", x.feed(1, 0), 1);
  }

  private static void text(String text, int reckoner, int fault) {
    FewKeys x = new FewKeys();
    feed(x, text);
    due("reckoner() of '" + text + "'", x.reckoner(), reckoner);
    due("fault() of '" + text + "'", x.fault(), fault);
    due("told(5) behind '" + text + "'", x.told(5), 0);
    due("told(3) behind '" + text + "'", x.told(3), Math.max(reckoner, 0));
  }

  private static void texts() {
    promise = 3;
    text("", 0, NONE);
    text("   ", 0, NONE);
    text("dial round 10 2;", 100, NONE);
    text("  dial   stop 2 6  ;  ", 64, NONE);
    text("dial stop2 6;figure1 99;plus001;", 64, NONE);
    text("dial stop 9 2;", 81, NONE);
    text("dial round 2 1;now times 1 1;now less 0 1;now plus 1 1;stuck 1 0 1;clear 9;is 9;times 9;less 9;", 2, NONE);
    text("dial round 010 002;figure 009 099;", 100, NONE);
    promise = 4;
    text("d", -11, 0);
    text("dial", -11, 4);
    text("dial ", -11, 5);
    text(";", -11, 0);
    text(" 1", -11, 1);
    text("Dial round 2 2;", -11, 0);
    text("round 2 2;", -11, 0);
    text("dialround 2 2;", -11, 0);
    text("dial turn 2 2;", -11, 5);
    text("dial rounds 2 2;", -11, 5);
    text("dial dial 2 2;", -11, 5);
    text("dial 2 2;", -11, 5);
    text("dial 2000 2;", -11, 5);
    text("dial round", -11, 10);
    text("dial round;", -11, 10);
    text("dial round dial;", -11, 11);
    text("dial round 22;", -12, 11);
    text("dial round 1 2;", -12, 11);
    text("dial round 11 2;", -12, 11);
    text("dial round 0002 2;", -12, 11);
    text("dial round 2 0;", -12, 13);
    text("dial round 2 7;", -12, 13);
    text("dial round 3 5;", -12, 13);
    text("dial round 10 3;", -12, 14);
    text("dial round 10 3", -12, 14);
    text("dial round 2 0002;", -12, 13);
    text("dial round 2 2", -11, 14);
    text("dial round 2 2  ", -11, 16);
    text("dial round 2 2 2;", -11, 15);
    text("dial round 2-2;", -11, 12);
    text("dial round 2 2;;", -11, 15);
    text("dial round 2 2; 5", -11, 16);
    text("dial round 2 2;dial", -13, 15);
    text("dial round 2 2;is 1;  dial", -13, 22);
    text("dial round 2 2;is dial", -11, 18);
    text("dial round 2 2;figure 2 1;", -12, 22);
    text("dial round 2 2;figure 1;", -11, 23);
    text("dial round 2 2;figure 1 0;", -12, 24);
    text("dial round 2 2;figure 1 100;", -12, 24);
    text("dial round 2 2;figure 1 1000;", -12, 24);
    text("dial round 2 2;figure 1 1 ", -11, 26);
    text("dial round 2 2;figure 1 1plus", -11, 25);
    text("dial round 2 2;stuck 1 2 1;", -12, 23);
    text("dial round 2 2;stuck 2 1 1;", -12, 21);
    text("dial round 2 2;stuck 1 1;", -11, 24);
    text("dial round 2 2;now is 1 1;", -11, 19);
    text("dial round 2 2;now now 1 1;", -11, 19);
    text("dial round 2 2;now dial 1 1;", -11, 19);
    text("dial round 2 2;now 1 1;", -11, 19);
    text("dial round 2 2;nowplus 1 1;", -11, 15);
    text("dial round 2 2;now plus 4 1;", -12, 24);
    text("dial round 2 2;now plus 3 1;", 4, NONE);
    text("dial round 2 2;is\n1;", -11, 17);
    text("dial round 2 2;is 1;is 1;is 1;is 1;is 1;is 1;is 1;is 1; is 1;", -13, 56);
    text("dial round 2 2;is 1;is 1;is 1;is 1;is 1;is 1;is 1;is 1; it 1;", -11, 56);
    text("dial round 2 2;is 1;is 1;is 1;is 1;is 1;is 1;is 1;is 1; dial", -13, 56);
    text("dial round 2 2;is 1;is 1;is 1;is 1;is 1;is 1;is 1;is 1; 5", -11, 56);
  }

  private static void reckoners() {
    promise = 3;
    FewKeys x = made("dial round 10 2;figure 7 2;plus 1;");
    strikes(x, 0, 1);
    x.target(3);
    x.write(0, 7);
    x.seed(9);
    x.keep(1);
    feed(x, "dial round 10 2;figure 7 2;plus");
    due("reckoner()", x.reckoner(), -11);
    due("fault()", x.fault(), 31);
    stands(x, "behind a fault", 7, 1, 7, 0);
    due("told(4)", x.told(4), 2);
    due("told(5)", x.told(5), 0);
    due("told(10)", x.told(10), 3);
    due("told(11)", x.told(11), 1);
    due("told(12)", x.told(12), 1);
    due("goBack(1)", x.goBack(1), 1);
    feed(x, "dial stop 3 2;is 4;");
    due("reckoner()", x.reckoner(), 9);
    due("fault()", x.fault(), NONE);
    stands(x, "in a new one", 0, 0, 0, 0);
    int[] told = {1, 3, 2, 9, 1, 0};
    for (int what = 0; what < told.length; what++) due("told(" + what + ")", x.told(what), told[what]);
    for (int what = 10; what <= 12; what++) due("told(" + what + ")", x.told(what), 0);
    due("goBack(1)", x.goBack(1), NOT);
    due("seed(0)", x.seed(0), 9);
    due("reckoner()", x.reckoner(), 0);
    due("told(0)", x.told(0), NONE);
    due("told(4)", x.told(4), 0);
  }

  private static void tellings() {
    promise = 5;
    FewKeys x = made("dial stop 5 2;figure 4 7;times 30;");
    strikes(x, 0, 0, 1, 0);
    x.target(3);
    x.target(3);
    x.write(1, 24);
    feed(x, "dial");
    int[] due = {1, 5, 2, 25, 2, 4, 4, 3, 24, 1, 51, 2, 1};
    for (int what = 0; what < due.length; what++) due("told(" + what + ")", x.told(what), due[what]);
    due("told(-1)", x.told(-1), OUTSIDE);
    due("told(13)", x.told(13), OUTSIDE);
    for (int what : WRONG) due("told(" + what + ")", x.told(what), OUTSIDE);
  }

  private static void keysTold() {
    promise = 6;
    FewKeys x = made("dial round 10 2;figure 7 1;plus 2;less 3;times 4;is 5;clear 6;now less 30 7;stuck 4 2 99;");
    int[][] due = {{0, 1, 7, NONE}, {1, 2, NONE, NONE}, {2, 3, NONE, NONE}, {3, 4, NONE, NONE}, {4, 5, NONE, NONE},
      {5, 6, NONE, NONE}, {6, 7, 30, 2}, {7, 99, 4, 2}};
    for (int k = 0; k < 8; k++) {
      for (int what = 0; what < 4; what++) due("key(" + k + ", " + what + ")", x.key(k, what), due[k][what]);
    }
    due("key(0, 4)", x.key(0, 4), OUTSIDE);
    due("key(0, -1)", x.key(0, -1), OUTSIDE);
    due("key(8, 0)", x.key(8, 0), UNKNOWN);
    due("key(8, 4)", x.key(8, 4), UNKNOWN);
    due("key(-1, 0)", x.key(-1, 0), UNKNOWN);
    for (int k : WRONG) due("key(" + k + ", 0)", x.key(k, 0), UNKNOWN);
    for (int what : WRONG) due("key(0, " + what + ")", x.key(0, what), OUTSIDE);
  }

  private static void strokes() {
    promise = 7;
    FewKeys x = made("dial round 10 2;figure 7 1;plus 2;less 3;times 4;is 5;clear 6;now less 30 7;stuck 4 2 8;");
    due("strike(8)", x.strike(8), UNKNOWN);
    due("strike(-1)", x.strike(-1), UNKNOWN);
    for (int k : WRONG) due("strike(" + k + ")", x.strike(k), UNKNOWN);
    due("told(10)", x.told(10), 0);
    due("7", x.strike(0), 7);
    due("77", x.strike(0), 77);
    due("777 goes round", x.strike(0), 77);
    stands(x, "typed", 77, 0, 0, 1);
    due("plus", x.strike(1), 77);
    stands(x, "a sign waits", 77, 1, 77, 0);
    due("less instead", x.strike(2), 77);
    stands(x, "another sign waits", 77, 2, 77, 0);
    due("stuck 42", x.strike(7), 42);
    stands(x, "typed behind a sign", 42, 2, 77, 1);
    due("times reckons 77 - 42", x.strike(3), 35);
    stands(x, "the third sign", 35, 3, 35, 0);
    due("now less 30", x.strike(6), 5);
    stands(x, "now keeps what waits", 5, 3, 35, 0);
    due("is: 35 * 5", x.strike(4), 75);
    stands(x, "behind is", 75, 0, 0, 0);
    due("is again", x.strike(4), 75);
    due("now less 30", x.strike(6), 45);
    due("now less 30", x.strike(6), 15);
    due("now less 30 goes round", x.strike(6), 85);
    due("times", x.strike(3), 85);
    due("now less 30", x.strike(6), 55);
    due("plus does not reckon what is not typed", x.strike(1), 55);
    stands(x, "plus", 55, 1, 55, 0);
    due("is reckons what is not typed: 55 + 55", x.strike(4), 10);
    due("7 is typed anew", x.strike(0), 7);
    due("stuck behind it: 742", x.strike(7), 42);
    due("now ends typing", x.strike(6), 12);
    due("7 is typed anew", x.strike(0), 7);
    due("clear", x.strike(5), 0);
    stands(x, "clear", 0, 0, 0, 0);
    due("told(10)", x.told(10), 3 * 1 + 2 + 3 + 8 + 4 + 7 + 5 + 5 + 3 * 7 + 4 + 7 + 2 + 5 + 1 + 8 + 7 + 1 + 6);
    strikes(x, 0, 2, 7);
    due("7 - 42 goes round", x.strike(4), 65);
    x = made("dial stop 10 2;figure 7 1;plus 2;less 3;times 4;is 5;stuck 4 2 6;now times 50 7;figure 0 1;");
    strikes(x, 0, 0);
    due("777 stays", x.strike(0), 77);
    due("both stuck ones stay", x.strike(5), 77);
    strikes(x, 7);
    due("770 stays", x.told(6), 77);
    strikes(x, 1, 5);
    due("77 + 42 stops at 99", x.strike(4), 99);
    strikes(x, 0, 2, 5);
    due("7 - 42 stops at 0", x.strike(4), 0);
    due("now times 50 of 0", x.strike(6), 0);
    strikes(x, 0);
    due("now times 50 of 7", x.strike(6), 99);
    x = made("dial stop 10 2;figure 9 1;stuck 4 2 1;");
    strikes(x, 0);
    due("94, then 942 stays 94", x.strike(1), 94);
    x = made("dial stop 2 3;figure 1 1;");
    strikes(x, 0, 0);
    due("111 in base 2", x.strike(0), 7);
    due("1111 stays", x.strike(0), 7);
    x = made("dial round 3 2;stuck 2 1 1;");
    due("21 in base 3", x.strike(0), 7);
    due("2121 in base 3, round", x.strike(0), 7);
  }

  private static void begins() {
    promise = 8;
    FewKeys x = made("dial round 10 2;figure 7 4;plus 1;");
    strikes(x, 0, 0, 1, 0);
    due("begin()", x.begin(), 7);
    stands(x, "begun", 0, 0, 0, 0);
    due("told(10)", x.told(10), 13);
    due("begin()", x.begin(), 0);
  }

  private static final String PAD = "dial round 10 2;figure 2 9;plus 1;is 1;figure 2 3;now times 5 2;";

  private static void ways() {
    promise = 9;
    FewKeys x = made(PAD);
    due("fewest(0)", x.fewest(0), 0);
    due("fewest(2)", x.fewest(2), 1);
    due("fewest(4): 2 + =", x.fewest(4), 3);
    due("fewest(10): 2 now", x.fewest(10), 2);
    due("fewest(100)", x.fewest(100), OUTSIDE);
    due("fewest(-1)", x.fewest(-1), OUTSIDE);
    for (int v : WRONG) due("fewest(" + v + ")", x.fewest(v), OUTSIDE);
    promise = 10;
    int[] way = {0, 1, 2, NONE};
    for (int i = 0; i < 4; i++) due("way(4, " + i + ")", x.way(4, i), way[i]);
    due("way(4, -1)", x.way(4, -1), NONE);
    due("way(0, 0)", x.way(0, 0), NONE);
    due("way(22, 1)", x.way(22, 1), 0);
    for (int i : WRONG) due("way(4, " + i + ")", x.way(4, i), NONE);
    due("way(100, 0)", x.way(100, 0), OUTSIDE);
    due("way(-1, -1)", x.way(-1, -1), OUTSIDE);
    promise = 11;
    due("least(0)", x.least(0), 0);
    due("least(2)", x.least(2), 3);
    due("least(4)", x.least(4), 5);
    due("least(22)", x.least(22), 6);
    for (int v : WRONG) due("least(" + v + ")", x.least(v), OUTSIDE);
    due("least(100)", x.least(100), OUTSIDE);
    x.strike(0);
    promise = 9;
    due("fewest(0) from 2 typed: now * 5, now * 5, .. or 2 + 2 ..", x.fewest(10), 1);
    due("fewest(2)", x.fewest(2), 0);
    promise = 10;
    due("way(10, 0)", x.way(10, 0), 4);
    promise = 11;
    due("least(10)", x.least(10), 2);
    x = made("dial round 10 1;stuck 4 2 50;now plus 1 1;figure 4 2;");
    promise = 9;
    due("fewest(4): what is stuck shows its second figure alone", x.fewest(4), 1);
    promise = 10;
    due("way(4, 0)", x.way(4, 0), 2);
    promise = 11;
    due("least(2): two steps up, not stuck", x.least(2), 2);
    x = made("dial stop 10 2;figure 0 1;");
    promise = 9;
    due("fewest(1)", x.fewest(1), NONE);
    promise = 10;
    due("way(1, 0)", x.way(1, 0), NONE);
    promise = 11;
    due("least(1)", x.least(1), NONE);
  }

  private static void nevers() {
    promise = 12;
    FewKeys x = made("dial round 10 1;now plus 4 1;");
    due("never(-1)", x.never(-1), 5);
    for (int i = 0; i < 5; i++) due("never(" + i + ")", x.never(i), 2 * i + 1);
    due("never(5)", x.never(5), NONE);
    for (int i : WRONG) due("never(" + i + ")", x.never(i), NONE);
    promise = 13;
    due("farthest(0): 0 4 8 2 6", x.farthest(0), 6);
    due("farthest(1)", x.farthest(1), 4);
    due("farthest(2)", x.farthest(2), OUTSIDE);
    due("farthest(-1)", x.farthest(-1), OUTSIDE);
    x.strike(0);
    due("farthest(0) from 4", x.farthest(0), 0);
    x = made("dial round 10 1;figure 9 1;figure 3 1;");
    due("the least of like ones", x.farthest(0), 3);
    x = made("dial round 10 1;");
    due("farthest(0) without keys", x.farthest(0), 0);
    due("farthest(1) without keys", x.farthest(1), 0);
    promise = 12;
    due("never(-1) without keys", x.never(-1), 9);
    promise = 13;
    x = new FewKeys();
    due("farthest(1) without a dial", x.farthest(1), NOT);
    due("farthest(2) without a dial", x.farthest(2), OUTSIDE);
  }

  private static void targets() {
    promise = 14;
    FewKeys x = made("dial round 10 2;figure 5 1;plus 1;is 1;");
    for (int i = 1; i <= 6; i++) due("target(" + 10 * i + ")", x.target(10 * i), i);
    due("target(5)", x.target(5), FULL);
    due("target(100)", x.target(100), OUTSIDE);
    due("target(-1)", x.target(-1), OUTSIDE);
    for (int v : WRONG) due("target(" + v + ")", x.target(v), OUTSIDE);
    promise = 15;
    for (int i = 0; i < 6; i++) due("targetAt(" + i + ")", x.targetAt(i), 10 * i + 10);
    due("targetAt(6)", x.targetAt(6), UNKNOWN);
    due("targetAt(-1)", x.targetAt(-1), UNKNOWN);
    for (int i : WRONG) due("targetAt(" + i + ")", x.targetAt(i), UNKNOWN);
    promise = 16;
    due("forget()", x.forget(), 6);
    due("forget()", x.forget(), 0);
    due("told(11)", x.told(11), 0);
    due("targetAt(0)", x.targetAt(0), UNKNOWN);
    due("target(99)", x.target(99), 1);
    due("targetAt(0)", x.targetAt(0), 99);
    due("targetAt(1)", x.targetAt(1), UNKNOWN);
  }

  private static void more(FewKeys x, int kind, int figure, int together) {
    due("more(0)", x.more(0), kind);
    due("more(1)", x.more(1), figure);
    due("more(2)", x.more(2), together);
  }

  private static void mores() {
    promise = 17;
    FewKeys x = made("dial round 10 2;figure 5 1;plus 1;");
    more(x, 0, 0, 0);
    x.target(7);
    more(x, 0, 7, 1);
    x.target(77);
    more(x, 0, 7, 3);
    x.target(0);
    x.target(0);
    more(x, 0, 7, 3);
    x.forget();
    x.target(25);
    due("5 * 5 +, with times, is four strokes; 2 5 is two", x.more(2), 2);
    x = made("dial round 10 2;figure 5 1;is 1;");
    x.target(25);
    x.target(10);
    x.target(30);
    due("told(4)", x.told(4), 2);
    x.more(0);
    due("told(4) as before", x.told(4), 2);
    x = made("dial round 10 2;stuck 4 2 1;clear 1;is 1;clear 1;is 1;clear 1;is 1;clear 1;");
    x.target(84);
    x.target(42);
    due("a ninth key: no figure makes 84, plus does: 42 + =", x.more(0), 1);
    due("more(1)", x.more(1), NONE);
    due("more(2)", x.more(2), 4);
    x = made("dial round 10 1;now plus 2 1;");
    x.target(9);
    x.target(7);
    x.target(5);
    more(x, 0, 5, 1 + 2 + 3);
    x = made("dial round 2 2;now plus 2 1;");
    x.strike(0);
    x.target(0);
    x.target(1);
    due("0 by the figure or the step, 1 by the figure", x.more(2), 2);
    due("more(1)", x.more(1), 1);
    x = made("dial round 2 2;");
    x.target(2);
    x.target(2);
    more(x, 0, 0, 198);
    due("more(3)", x.more(3), OUTSIDE);
    due("more(-1)", x.more(-1), OUTSIDE);
    for (int what : WRONG) due("more(" + what + ")", x.more(what), OUTSIDE);
    x = new FewKeys();
    due("more(0) without a dial", x.more(0), NOT);
    due("more(3) without a dial", x.more(3), OUTSIDE);
  }

  private static void lists() {
    promise = 18;
    FewKeys x = made("dial round 10 1;now plus 1 1;now plus 3 1;");
    due("list() of none", x.list(), 0);
    x.target(0);
    due("what is shown now counts", x.list(), 0);
    x.target(0);
    due("like ones at once", x.list(), 0);
    x.target(3);
    due("0 0 3", x.list(), 1);
    x.target(0);
    due("0 0 3 0: 3 6 9 0", x.list(), 4);
    x.target(0);
    x.target(1);
    due("0 0 3 0 0 1", x.list(), 5);
    x = made("dial stop 10 1;now plus 1 1;");
    x.target(3);
    x.target(2);
    due("3 2 without a way back", x.list(), NONE);
    x = made("dial round 10 2;figure 5 1;figure 1 1;clear 1;");
    x.target(15);
    x.target(51);
    due("1 5, 5 1 behind: 15 -> 151 = 51", x.list(), 3);
    x = new FewKeys();
    due("list() without a dial", x.list(), 0);
  }

  private static void quicks() {
    promise = 19;
    FewKeys x = made("dial round 10 2;figure 5 1;figure 9 1;plus 1;is 1;");
    due("quick(54, 1)", x.quick(54, 1), 55);
    due("quick(57, 2): 55 and 59 as near, 55 the least", x.quick(57, 2), 55);
    due("quick(58, 3): 59 is nearer", x.quick(58, 3), 59);
    due("quick(7, 2): 5 and 9", x.quick(7, 2), 5);
    due("quick(8, 999): 0 takes no stroke", x.quick(8, 999), 0);
    due("quick(10, 1): 9 takes one", x.quick(10, 1), 9);
    due("quick(999, 999)", x.quick(999, 999), 0);
    due("quick(999, 899)", x.quick(999, 899), NONE);
    due("quick(999, 900)", x.quick(999, 900), 99);
    due("quick(0, 0)", x.quick(0, 0), 0);
    due("quick(1000, 0)", x.quick(1000, 0), OUTSIDE);
    due("quick(0, 1000)", x.quick(0, 1000), OUTSIDE);
    due("quick(-1, 0)", x.quick(-1, 0), OUTSIDE);
    due("quick(0, -1)", x.quick(0, -1), OUTSIDE);
    for (int n : WRONG) due("quick(" + n + ", 1)", x.quick(n, 1), OUTSIDE);
    for (int n : WRONG) due("quick(1, " + n + ")", x.quick(1, n), OUTSIDE);
    x = made("dial round 10 1;now plus 4 1;");
    due("numbers that never come are none", x.quick(5, 0), NONE);
    due("quick(5, 1): 4 takes one, 6 four", x.quick(5, 1), 4);
    due("quick(7, 1): 8 takes two, 6 four", x.quick(7, 1), 8);
  }

  private static void strucks() {
    promise = 20;
    FewKeys x = made("dial round 10 1;now plus 1 1;now plus 2 1;clear 1;");
    due("struck(0, 0, 0)", x.struck(0, 0, 0), 1);
    due("struck(0, 0, 1)", x.struck(0, 0, 1), 0);
    due("struck(0, 1, 0)", x.struck(0, 1, 0), 0);
    due("struck(2, 3, 0)", x.struck(2, 3, 0), 2);
    due("struck(2, 3, 1)", x.struck(2, 3, 1), 3);
    due("struck(2, 0, 0)", x.struck(2, 0, 0), 3);
    due("struck(2, 0, 1)", x.struck(2, 0, 1), 4);
    due("struck(2, 9, 0)", x.struck(2, 9, 0), 0);
    due("struck(2, 9, 1)", x.struck(2, 9, 1), 0);
    due("struck(1, 1, 1)", x.struck(1, 1, 1), 1);
    due("struck(-1, 0, 0)", x.struck(-1, 0, 0), OUTSIDE);
    due("struck(9, 0, 0)", x.struck(9, 0, 0), OUTSIDE);
    due("struck(1, 10, 0)", x.struck(1, 10, 0), OUTSIDE);
    due("struck(1, -1, 0)", x.struck(1, -1, 0), OUTSIDE);
    due("struck(1, 0, 2)", x.struck(1, 0, 2), OUTSIDE);
    due("struck(1, 0, -1)", x.struck(1, 0, -1), OUTSIDE);
    for (int n : WRONG) due("struck(" + n + ", 0, 0)", x.struck(n, 0, 0), OUTSIDE);
    x = made("dial round 2 1;clear 1;clear 1;clear 1;clear 1;clear 1;clear 1;clear 1;clear 1;");
    due("all rows of eight", x.struck(8, 0, 0), 16777216);
    due("none in each of them", x.struck(8, 0, 1), 0);
    due("all rows of seven", x.struck(7, 0, 0), 2097152);
    x = made("dial round 2 1;is 1;");
    due("one row of eight", x.struck(8, 0, 0), 1);
    due("its key", x.struck(8, 0, 1), 1);
    x = made("dial round 2 1;");
    due("struck(1, 0, 0) without keys", x.struck(1, 0, 0), 0);
    due("struck(1, 0, 1) without keys", x.struck(1, 0, 1), 0);
    due("struck(0, 0, 0) without keys", x.struck(0, 0, 0), 1);
  }

  private static void losts() {
    promise = 21;
    FewKeys x = made("dial round 10 2;figure 1 1;figure 2 1;plus 1;times 1;figure 1 5;clear 1;");
    due("figures differ at once", x.lost(3), 1);
    due("plus or times: that one, 1, that one: 0 + 1, 0 * 1", x.lost(12), 3);
    due("like ones are never known", x.lost(17), NONE);
    due("like ones among others", x.lost(19), NONE);
    due("clear and plus: 1, then that one", x.lost(36), 2);
    due("figure, sign, clear: figure 1, then that one", x.lost(37), 2);
    due("lost(0)", x.lost(0), OUTSIDE);
    due("lost(32)", x.lost(32), OUTSIDE);
    due("lost(64)", x.lost(64), UNKNOWN);
    due("lost(67)", x.lost(67), UNKNOWN);
    due("lost(-1)", x.lost(-1), UNKNOWN);
    for (int set : WRONG) if (set != -2) due("lost(" + set + ")", x.lost(set), UNKNOWN);
    x.strike(1);
    due("from where it stands", x.lost(36), 1);
    x = made("dial round 10 2;plus 1;less 1;");
    due("nothing to tell them by", x.lost(3), NONE);
    x = made("dial round 10 2;plus 1;less 1;figure 3 1;is 1;");
    due("3 x is: 6 or 0", x.lost(3), 3);
    x = made("dial round 10 2;now plus 10 1;now plus 20 1;now plus 30 1;now plus 40 1;now plus 50 1;now plus 60 1;now plus 70 1;now plus 80 1;");
    due("eight at once", x.lost(255), 1);
  }

  private static void games() {
    promise = 22;
    FewKeys x = made("dial round 10 1;now plus 1 1;now plus 2 1;");
    due("game(3, 0, 0)", x.game(3, 0, 0), 0);
    due("game(3, 0, 1)", x.game(3, 0, 1), NONE);
    due("game(2, 1, 0)", x.game(2, 1, 0), 1);
    due("game(2, 1, 1)", x.game(2, 1, 1), 1);
    due("game(3, 1, 0)", x.game(3, 1, 0), 0);
    due("game(3, 1, 1)", x.game(3, 1, 1), 0);
    due("game(3, 2, 0): the other one", x.game(3, 2, 0), -1);
    due("game(3, 2, 1)", x.game(3, 2, 1), 0);
    due("game(4, 3, 0): 1, then 2 or 3, then 4", x.game(4, 3, 0), 1);
    due("game(4, 3, 1)", x.game(4, 3, 1), 0);
    due("game(5, 3, 0): 2, then 3 or 4, then 5", x.game(5, 3, 0), 1);
    due("game(5, 3, 1)", x.game(5, 3, 1), 1);
    due("game(4, 2, 1): neither by 1", x.game(4, 2, 1), 0);
    due("game(4, 2, 0)", x.game(4, 2, 0), 0);
    due("game(6, 4, 0)", x.game(6, 4, 0), -1);
    due("game(7, 5, 1)", x.game(7, 5, 1), 0);
    due("game(8, 6, 0)", x.game(8, 6, 0), 1);
    due("game(8, 6, 1)", x.game(8, 6, 1), 1);
    due("game(0, 1, 0): what it shows now does not count", x.game(0, 1, 0), 0);
    due("game(0, 7, 0)", x.game(0, 7, 0), OUTSIDE);
    due("game(0, -1, 0)", x.game(0, -1, 0), OUTSIDE);
    due("game(10, 1, 0)", x.game(10, 1, 0), OUTSIDE);
    due("game(-1, 1, 0)", x.game(-1, 1, 0), OUTSIDE);
    due("game(1, 1, 2)", x.game(1, 1, 2), OUTSIDE);
    due("game(1, 1, -1)", x.game(1, 1, -1), OUTSIDE);
    for (int n : WRONG) due("game(" + n + ", 1, 1)", x.game(n, 1, 1), OUTSIDE);
    x = made("dial round 10 1;now plus 1 1;");
    due("one key, the other one's turn", x.game(2, 2, 0), -1);
    due("one key, the first one's turn", x.game(3, 3, 0), 1);
    x = made("dial round 10 1;is 1;");
    due("0 is shown by a stroke", x.game(0, 1, 0), 1);
    x = made("dial round 10 1;");
    due("without keys", x.game(0, 3, 0), 0);
    due("without keys", x.game(0, 3, 1), NONE);
  }

  private static void books() {
    promise = 23;
    FewKeys x = made("dial round 10 2;figure 7 1;plus 1;is 1;");
    due("write(3, 0)", x.write(3, 0), UNKNOWN);
    due("write(3, 100)", x.write(3, 100), UNKNOWN);
    due("write(-1, 0)", x.write(-1, 0), UNKNOWN);
    due("write(0, 100)", x.write(0, 100), OUTSIDE);
    due("write(0, -1)", x.write(0, -1), OUTSIDE);
    for (int n : WRONG) due("write(" + n + ", 0)", x.write(n, 0), UNKNOWN);
    for (int n : WRONG) due("write(0, " + n + ")", x.write(0, n), OUTSIDE);
    due("told(12)", x.told(12), 0);
    due("write(0, 7)", x.write(0, 7), 1);
    for (int i = 2; i <= 40; i++) due("write(0, 77)", x.write(0, 77), i);
    due("write(0, 77)", x.write(0, 77), FULL);
    due("write(0, 100)", x.write(0, 100), OUTSIDE);
    due("write(3, 77)", x.write(3, 77), UNKNOWN);
    promise = 25;
    due("judge()", x.judge(), NONE);
    stands(x, "a book strikes nothing", 0, 0, 0, 0);
    due("told(10)", x.told(10), 0);
    promise = 24;
    due("tear()", x.tear(), 40);
    due("tear()", x.tear(), 0);
    due("told(12)", x.told(12), 0);
    promise = 25;
    due("judge() of none", x.judge(), NONE);
    x.write(0, 7);
    x.write(1, 7);
    x.write(2, 15);
    x.write(0, 8);
    due("judge(): the first wrong one", x.judge(), 2);
    x.strike(0);
    due("judge() from where it stands", x.judge(), 0);
  }

  private static void draws() {
    promise = 26;
    FewKeys x = made("dial round 10 2;figure 1 1;figure 2 2;figure 3 3;figure 4 4;figure 5 5;figure 6 6;figure 7 7;figure 8 8;");
    due("drift(0)", x.drift(0), OUTSIDE);
    due("drift(1000)", x.drift(1000), OUTSIDE);
    for (int n : WRONG) due("drift(" + n + ")", x.drift(n), OUTSIDE);
    due("drift(1): the seed is 12345, the draw 0", x.drift(1), 1);
    due("told(10)", x.told(10), 1);
    due("seed(1)", x.seed(1), 12345);
    due("drift(1): 1103527590 / 65536 = 16838, left over by 8 is 6", x.drift(1), 17);
    due("told(10)", x.told(10), 8);
    due("seed(0)", x.seed(0), 1103527590);
    x.drift(999);
    long seed = 0;
    int spent = 8;
    for (int i = 0; i < 999; i++) {
      seed = (seed * 1103515245L + 12345L) % 2147483648L;
      spent += (int) (seed / 65536 % 8) + 1;
    }
    due("told(10)", x.told(10), spent);
    due("seed(7)", x.seed(7), (int) seed);
    x = made("dial round 10 2;");
    due("drift(1) without keys", x.drift(1), NOT);
    due("drift(0) without keys", x.drift(0), OUTSIDE);
    promise = 27;
    due("seed(2147483647)", x.seed(2147483647), 0);
    due("seed(-1)", x.seed(-1), OUTSIDE);
    due("seed(-2147483648)", x.seed(Integer.MIN_VALUE), OUTSIDE);
    due("seed(3)", x.seed(3), 2147483647);
  }

  private static void images() {
    promise = 28;
    FewKeys x = made("dial round 10 2;figure 7 3;times 1;");
    due("keep(2)", x.keep(2), UNKNOWN);
    due("keep(-1)", x.keep(-1), UNKNOWN);
    for (int i : WRONG) due("keep(" + i + ")", x.keep(i), UNKNOWN);
    strikes(x, 0, 1, 0, 0);
    x.target(5);
    x.seed(44);
    x.write(0, 1);
    due("keep(1)", x.keep(1), 1);
    promise = 29;
    due("goBack(0)", x.goBack(0), NOT);
    due("goBack(2)", x.goBack(2), UNKNOWN);
    due("goBack(-1)", x.goBack(-1), UNKNOWN);
    for (int i : WRONG) due("goBack(" + i + ")", x.goBack(i), UNKNOWN);
    x.begin();
    x.forget();
    x.target(8);
    x.target(9);
    x.seed(45);
    x.write(0, 2);
    x.keep(0);
    x.drift(3);
    due("fewest(7)", x.fewest(7) >= 0 ? 1 : 0, 1);
    due("goBack(1)", x.goBack(1), 1);
    stands(x, "gone back", 77, 3, 7, 1);
    due("fewest(77)", x.fewest(77), 0);
    due("least(77)", x.least(77), 0);
    due("told(10)", x.told(10), 10);
    due("told(11)", x.told(11), 1);
    due("targetAt(0)", x.targetAt(0), 5);
    due("told(12): the book stays", x.told(12), 2);
    due("seed(0)", x.seed(0), 44);
    x.target(6);
    x.strike(1);
    due("goBack(1) again", x.goBack(1), 1);
    stands(x, "gone back again", 77, 3, 7, 1);
    due("told(11)", x.told(11), 1);
    due("goBack(0)", x.goBack(0), 1);
    stands(x, "the other image", 0, 0, 0, 0);
    due("targetAt(1)", x.targetAt(1), 9);
    due("seed(0)", x.seed(0), 45);
    x.strike(0);
    promise = 28;
    due("keep(1) over what was", x.keep(1), 1);
    x.begin();
    x.goBack(1);
    due("told(6)", x.told(6), 7);
  }

  /** What has been reckoned once is not answered again when something has changed. */
  private static void changes() {
    promise = 9;
    FewKeys x = made("dial round 10 1;now plus 1 1;now plus 5 9;");
    due("fewest(6)", x.fewest(6), 2);
    due("least(6)", x.least(6), 6);
    x.strike(0);
    due("fewest(6)", x.fewest(6), 1);
    due("least(6)", x.least(6), 5);
    x.seed(0);
    x.drift(1);
    due("fewest(6)", x.fewest(6), x.told(6) == 2 ? 4 : 0);
    x.begin();
    due("way(6, 0)", x.way(6, 0), 0);
    due("least(5)", x.least(5), 5);
    due("struck(1, 5, 0)", x.struck(1, 5, 0), 1);
    due("way(6, 1)", x.way(6, 1), 1);
    due("list()", x.list(), 0);
    due("way(7, 2)", x.way(7, 2), 1);
    x.target(7);
    due("more(1)", x.more(1), 7);
    due("fewest(7)", x.fewest(7), 3);
    due("never(-1)", x.never(-1), 0);
    x.forget();
    x.target(8);
    due("more(1)", x.more(1), 8);
    x.strike(1);
    x.target(6);
    due("more(2): 6 by a step, 8 by the figure", x.more(2), 2);
    feed(x, "dial round 10 1;now plus 2 1;");
    x.reckoner();
    due("fewest(6)", x.fewest(6), 3);
    due("least(6)", x.least(6), 3);
    due("never(-1)", x.never(-1), 5);
  }

  public static void main(String[] args) {
    newObject();
    feeding();
    texts();
    reckoners();
    tellings();
    keysTold();
    strokes();
    begins();
    ways();
    nevers();
    targets();
    mores();
    lists();
    quicks();
    strucks();
    losts();
    games();
    books();
    draws();
    images();
    changes();
    System.out.println(wrong == 0 ? "all answers are as due" : wrong + " answers are not as due");
    if (wrong != 0) System.exit(1);
  }
}
