/** What the tests by hand have in common: how an answer is compared, and how a scene is set up. */
abstract class Asking {
  static final int MAP = 0, QUEUE = 1, DEQUE = 2, COUNTER = 3, COPIES = 4, ONCE = 5;
  static final int PLAIN = 0, BARE = 1, EARLY = 2;
  static final int PUT = 0, GET = 1, OUT = 2, MAP_ADD = 3, COPIES_ALL = 3;
  static final int POLL = 1;
  static final int LAST = 0, FIRST = 1, HEAD = 2, TAIL = 3, CLOSE = 4;
  static final int ADD = 0, SUM = 1;
  static final int MAKE = 0;
  static final int WELL = 0, NONE_THERE = 1, CLOSED = 2, THREW = 3, TIRED = 4, WAITS = 5, NOT_BEGUN = 6;
  static final int NONE = -1, BAD = -2, NO = -3, FULL = -4, GAVE_UP = -5;
  static final int HIGH = Integer.MAX_VALUE, LOW = Integer.MIN_VALUE;
  private static int wrong = 0;
  private static int asked = 0;

  interface Call {
    long on(CardIndex x);
  }

  interface OfNumber {
    long of(int number);
  }

  static void due(String what, long got, long want) {
    asked++;
    if (got == want) return;
    wrong++;
    System.out.println(what + " answered " + got + ", due is " + want);
  }

  static void due(String what, boolean holds) {
    due(what, holds ? 1 : 0, 1);
  }

  /** Ends the test: with exit code 1 if an answer was wrong. */
  static void end(String test) {
    System.out.println(test + ": " + asked + " answers, " + wrong + " wrong");
    if (wrong != 0) System.exit(1);
  }

  static void bad(String what, OfNumber call, int... numbers) {
    for (int n : numbers) due(what + " " + n, call.of(n), BAD);
  }

  /** A new object with trays of these kinds (DEQUES of 2) and fault, and so many clerks. */
  static CardIndex desk(int fault, int clerks, int... kinds) {
    CardIndex x = new CardIndex();
    for (int kind : kinds) x.tray(kind, 2, fault);
    for (int i = 0; i < clerks; i++) x.clerk();
    return x;
  }

  /** A new object with one DEQUE of a cards, and so many clerks. */
  static CardIndex deque(int a, int fault, int clerks) {
    CardIndex x = new CardIndex();
    x.tray(DEQUE, a, fault);
    for (int i = 0; i < clerks; i++) x.clerk();
    return x;
  }

  static void batons(CardIndex x, int... clerks) {
    for (int i = 0; i < clerks.length; i++) x.baton(i, clerks[i]);
  }

  /** A run whose baton names these clerks, blanks not counted; its later choices stay as they were. */
  static int play(CardIndex x, String clerks) {
    int i = 0;
    for (char c : clerks.toCharArray()) if (c != ' ') x.baton(i++, c - '0');
    return x.run();
  }

  static void told(String what, CardIndex x, int clerk, int act, int outcome, int answer) {
    due(what + " outcome", x.outcome(clerk, act), outcome);
    due(what + " answer", x.answer(clerk, act), answer);
  }

  /** The cards as KEY, VALUE, KEY, VALUE .. */
  static void cards(String what, CardIndex x, int tray, int... keysAndValues) {
    due(what + " size", x.size(tray), keysAndValues.length / 2);
    for (int i = 0; i < keysAndValues.length; i++) {
      due(what + " card " + i / 2, x.card(tray, i / 2, i % 2), 1);
      due(what + " asked " + i / 2 + ", " + i % 2, x.asked(), keysAndValues[i]);
    }
    due(what + " no more cards", x.card(tray, keysAndValues.length / 2, 0), NONE);
  }

  static void mark(String what, CardIndex x, int i, int clerk, int act, int isEnd, int steps) {
    int[] want = {clerk, act, isEnd, steps};
    for (int w = 0; w < 4; w++) due(what + " mark " + i + ", " + w, x.mark(i, w), want[w]);
  }
}
