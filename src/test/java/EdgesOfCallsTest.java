import java.util.ArrayList;
import java.util.Arrays;
import java.util.LinkedHashMap;
import java.util.List;
import java.util.Map;

/** The edges of each call's numbers, the order of the refusals, and that a refusal changes nothing. */
public final class EdgesOfCallsTest extends Asking {
  private static final int[] ALL_KINDS = {MAP, QUEUE, DEQUE, COUNTER, COPIES, ONCE};
  private static final int[] OPS = {4, 2, 5, 2, 4, 1};

  public static void main(String[] args) {
    newObject();
    twoObjects();
    tray();
    trayOfADeque();
    sixTrays();
    fiveClerks();
    actNumbers();
    actKeys();
    eightActs();
    baton();
    patience();
    throwing();
    runOfNothing();
    answerOutcomeWaited();
    marks();
    counts();
    sizes();
    cardNumbers();
    askedLast();
    about();
    digests();
    clearing();
    clearingAFullOne();
    noRunYet();
    eachChangeEndsTheRun();
    badAheadOfNo();
    badAheadOfFull();
    refusedChangesNothing();
    refusedWithoutARun();
    tellingChangesNothing();
    fiveHundredAndTwelveCalls();
    exampleOfTheReadme();
    end("EdgesOfCallsTest");
  }

  // ---- promise 1: "No TRAYS, no CLERKS"

  private static void newObject() {
    CardIndex x = new CardIndex();
    for (int what = 0; what < 3; what++) due("new: count", x.count(what), 0);
    due("new: fits", x.fits(0), BAD);
    due("new: order", x.order(0, 0), BAD);
    due("new: size", x.size(0), BAD);
    due("new: card", x.card(0, 0, 0), BAD);
    due("new: about", x.about(0, 0), BAD);
    due("new: act", x.act(0, 0, 0, 0, 0), BAD);
    due("new: patience", x.patience(0, 0, 0), BAD);
    due("new: throwing", x.throwing(0, 0, 0), BAD);
    due("new: answer", x.answer(0, 0), 0);
    due("new: outcome", x.outcome(0, 0), BAD);
    due("new: waited", x.waited(0, 0), BAD);
    due("new: mark", x.mark(0, 0), NO);
    due("new: first", x.first(), NO);
    due("new: asked", x.asked(), 0);
    due("new: tries", x.tries(), 0);
    due("new: digest", x.digest(), 0);
    for (int what = 0; what < 5; what++) due("new: explored", x.explored(what), 0);
    due("new: a baton", x.baton(0, 4), 1);
    due("new: clear", x.clear(), 0);
  }

  private static void twoObjects() {
    CardIndex one = desk(PLAIN, 1, QUEUE);
    CardIndex other = desk(PLAIN, 1, QUEUE);
    one.act(0, 0, PUT, 5, 0);
    other.act(0, 0, PUT, 6, 0);
    other.act(0, 0, PUT, 7, 0);
    one.run();
    other.run();
    cards("one", one, 0, 0, 5);
    cards("other", other, 0, 0, 6, 1, 7);
    other.clear();
    due("one stays", one.size(0), 1);
    due("one's asked", one.asked(), 5);
  }

  // ---- promise 2

  private static void tray() {
    bad("tray kind", n -> new CardIndex().tray(n, 1, 0), LOW, -2, -1, 6, 7, HIGH);
    bad("tray fault", n -> new CardIndex().tray(MAP, 1, n), LOW, -2, -1, 3, 4, HIGH);
    for (int kind : ALL_KINDS) {
      for (int fault = 0; fault < 3; fault++) {
        due("kind " + kind + ", fault " + fault, new CardIndex().tray(kind, 1, fault), 0);
        bad("kind " + kind + ", no fault", n -> new CardIndex().tray(kind, 1, n), -1, 3);
      }
      if (kind == DEQUE) continue;
      for (int a : new int[] {LOW, -1, 0, 9, 99, HIGH}) {
        due("a of kind " + kind + " is not looked at", new CardIndex().tray(kind, a, 0), 0);
      }
    }
  }

  private static void trayOfADeque() {
    bad("DEQUE of", a -> new CardIndex().tray(DEQUE, a, 0), LOW, -1, 0, 9, 10, HIGH);
    for (int a = 1; a <= 8; a++) due("DEQUE of " + a, new CardIndex().tray(DEQUE, a, 2), 0);
  }

  private static void sixTrays() {
    CardIndex x = new CardIndex();
    bad("a refused tray has no number", n -> x.tray(n, 1, 0), -1, 6);
    for (int i = 0; i < 6; i++) {
      due("tray", x.tray(ALL_KINDS[i], 1, 0), i);
      due("trays", x.count(0), i + 1);
    }
    for (int i = 0; i < 2; i++) due("the seventh", x.tray(MAP, 1, 0), FULL);
    due("six", x.count(0), 6);
    x.clerk();
    due("an act on the last one", x.act(0, 5, MAKE, 0, 0), 0);
    due("no tray 6", x.act(0, 6, MAKE, 0, 0), BAD);
    x.run();
    due("size of the last one", x.size(5), 1);
    due("size of no tray 6", x.size(6), BAD);
    x.clear();
    due("tray again", x.tray(MAP, 1, 0), 0);
  }

  // ---- promise 3

  private static void fiveClerks() {
    CardIndex x = desk(PLAIN, 0, COPIES);
    for (int i = 0; i < 5; i++) {
      due("no clerk yet", x.act(i, 0, GET, 0, 0), BAD);
      due("clerk", x.clerk(), i);
      due("clerks", x.count(1), i + 1);
      due("an act of it", x.act(i, 0, GET, 0, 0), 0);
    }
    for (int i = 0; i < 2; i++) due("the sixth", x.clerk(), FULL);
    due("five", x.count(1), 5);
    due("no clerk 5", x.act(5, 0, GET, 0, 0), BAD);
    due("all five step", x.run(), 0);
    due("five steps", x.count(3), 5);
  }

  // ---- promise 4

  private static void actNumbers() {
    for (int kind : ALL_KINDS) {
      CardIndex x = desk(PLAIN, 2, COPIES, kind);
      bad("act op of kind " + kind, n -> x.act(0, 1, n, 0, 0), LOW, -2, -1, OPS[kind], OPS[kind] + 1, 5, HIGH);
      bad("act clerk", n -> x.act(n, 1, 0, 0, 0), LOW, -1, 2, 5, HIGH);
      bad("act tray", n -> x.act(0, n, 0, 0, 0), LOW, -1, 2, 6, HIGH);
      due("no act yet", x.count(2), 0);
      for (int op = 0; op < OPS[kind]; op++) due("op " + op, x.act(1, 1, op, 0, 0), op);
      for (int b : new int[] {LOW, -1, HIGH}) due("b may be any", x.act(0, 1, 0, 0, b) >= 0);
      due("acts", x.count(2), OPS[kind] + 3);
    }
  }

  private static void actKeys() {
    int[][] keyed = {
      {MAP, PUT}, {MAP, GET}, {MAP, OUT}, {MAP, MAP_ADD}, {COPIES, PUT}, {COPIES, GET}, {COPIES, OUT}, {ONCE, MAKE}};
    for (int[] act : keyed) {
      CardIndex x = desk(PLAIN, 1, act[0]);
      bad("KEY, kind " + act[0] + ", op " + act[1], n -> x.act(0, 0, act[1], n, 0), LOW, -1, 32, 33, HIGH);
      due("KEY 0", x.act(0, 0, act[1], 0, 0), 0);
      due("KEY 31", x.act(0, 0, act[1], 31, 0), 1);
    }
    int[][] free = {
      {QUEUE, PUT}, {QUEUE, POLL}, {DEQUE, LAST}, {DEQUE, FIRST}, {DEQUE, HEAD}, {DEQUE, TAIL}, {DEQUE, CLOSE},
      {COUNTER, ADD}, {COUNTER, SUM}, {COPIES, COPIES_ALL}};
    int[] any = {LOW, -1, 0, 31, 32, HIGH};
    for (int[] act : free) {
      CardIndex x = desk(PLAIN, 1, act[0]);
      for (int i = 0; i < any.length; i++) {
        due("no KEY, kind " + act[0] + ", op " + act[1] + ", a " + any[i], x.act(0, 0, act[1], any[i], any[i]), i);
      }
    }
  }

  private static void eightActs() {
    CardIndex x = desk(PLAIN, 5, COPIES);
    for (int i = 0; i < 8; i++) {
      for (int c = 0; c < 5; c++) due("act of clerk " + c, x.act(c, 0, GET, 0, 0), i);
      due("acts", x.count(2), 5 * i + 5);
    }
    for (int c = 0; c < 5; c++) due("the ninth of clerk " + c, x.act(c, 0, GET, 0, 0), FULL);
    due("forty", x.count(2), 40);
    due("forty run", x.run(), 0);
    due("forty steps", x.count(3), 40);
    due("eighty marks", x.count(4), 80);
    for (int c = 0; c < 5; c++) {
      due("the last act", x.outcome(c, 7), NONE_THERE);
      due("no act 8", x.outcome(c, 8), BAD);
    }
  }

  // ---- promise 5

  private static void baton() {
    CardIndex x = new CardIndex();
    bad("baton i", n -> x.baton(n, 0), LOW, -2, -1, 600, 601, HIGH);
    bad("baton clerk", n -> x.baton(0, n), LOW, -3, -2, 5, 6, HIGH);
    for (int i : new int[] {0, 1, 127, 128, 255, 256, 511, 512, 598, 599}) {
      for (int c = NONE; c <= 4; c++) due("baton " + i + ", " + c, x.baton(i, c), 1);
    }
    CardIndex y = desk(PLAIN, 5, COPIES);
    for (int c = 0; c < 5; c++) y.act(c, 0, GET, 0, 0);
    for (int c = 0; c < 5; c++) {
      y.baton(0, c);
      y.run();
      due("choice 0 names " + c, y.mark(0, 0), c);
    }
    y.baton(0, NONE);
    y.baton(4, 4);
    y.run();
    for (int c = 0; c < 5; c++) due("the least ones first", y.mark(2 * c, 0), c);
  }

  // ---- promise 6

  private static void patience() {
    CardIndex x = desk(PLAIN, 2, DEQUE);
    due("no act 0", x.patience(0, 0, 1), BAD);
    for (int i = 0; i < 8; i++) x.act(0, 0, HEAD, 0, 0);
    bad("patience n", n -> x.patience(0, 0, n), LOW, -2, -1, 101, 102, HIGH);
    bad("patience clerk", n -> x.patience(n, 0, 1), LOW, -1, 1, 2, 5, HIGH);
    bad("patience act", n -> x.patience(0, n, 1), LOW, -1, 8, 9, HIGH);
    for (int n : new int[] {0, 1, 99, 100}) due("patience " + n, x.patience(0, 7, n), 1);
    x.act(1, 0, HEAD, 0, 0);
    x.act(1, 0, CLOSE, 0, 0);
    due("patience of the other clerk's", x.patience(1, 0, 2), 1);
    due("it is the act's own", x.run(), 1);
    due("0 has none", x.outcome(0, 0), WAITS);
    due("1 waits too", x.outcome(1, 0), WAITS);
    x.patience(0, 0, 2);
    x.patience(0, 0, 1);
    due("what was told last", x.run(), 0);
    due("0 is TIRED", x.outcome(0, 0), TIRED);
    due("the next one has none, and is woken", x.outcome(0, 1), CLOSED);
  }

  // ---- promise 7

  private static void throwing() {
    CardIndex x = desk(PLAIN, 1, MAP, QUEUE, DEQUE, COUNTER, COPIES, ONCE);
    bad("throwing of no ONCE", t -> x.throwing(t, 0, 1), LOW, -1, 0, 1, 2, 3, 4, 6, HIGH);
    bad("throwing key", n -> x.throwing(5, n, 1), LOW, -1, 32, 33, HIGH);
    bad("throwing n", n -> x.throwing(5, 0, n), LOW, -1, 10, 11, HIGH);
    for (int key : new int[] {0, 31}) for (int n : new int[] {0, 1, 9, 0}) due("throwing", x.throwing(5, key, n), 1);
    x.act(0, 5, MAKE, 0, 0);
    x.act(0, 5, MAKE, 31, 0);
    x.run();
    due("0 takes it back", x.about(5, 5), 0);
    x.throwing(5, 31, 9);
    x.run();
    told("the KEY that was told", x, 0, 1, THREW, 0);
    told("the KEY that was not", x, 0, 0, WELL, 1000);
  }

  // ---- promise 8

  private static void runOfNothing() {
    CardIndex x = new CardIndex();
    due("nothing", x.run(), 0);
    for (int what = 3; what < 6; what++) due("nothing: count", x.count(what), 0);
    due("nothing: mark", x.mark(0, 0), NONE);
    due("nothing: digest", x.digest(), 7);
    due("nothing: first", x.first(), NONE);
    x.clerk();
    due("a clerk without acts", x.run(), 0);
    due("a clerk without acts: digest", x.digest(), 7);
    x.tray(COUNTER, 0, 0);
    due("a tray without acts", x.run(), 0);
    due("a tray without acts: steps", x.count(3), 0);
    due("a tray without acts: fits", x.fits(0), 1);
    due("a tray without acts: order", x.order(0, 0), NONE);
  }

  // ---- promises 9 to 11

  private static void answerOutcomeWaited() {
    CardIndex x = desk(PLAIN, 5, QUEUE);
    for (int c = 0; c < 5; c++) for (int i = 0; i < 8; i++) x.act(c, 0, PUT, 10 * c + i, 0);
    x.run();
    for (int c : new int[] {0, 4}) for (int i : new int[] {0, 7}) told("first and last", x, c, i, WELL, 10 * c + i);
    bad("outcome clerk", n -> x.outcome(n, 0), LOW, -1, 5, 6, HIGH);
    bad("outcome act", n -> x.outcome(0, n), LOW, -1, 8, 9, HIGH);
    bad("waited clerk", n -> x.waited(n, 0), LOW, -1, 5, 6, HIGH);
    bad("waited act", n -> x.waited(4, n), LOW, -1, 8, 9, HIGH);
    for (int n : new int[] {LOW, -1, 8, HIGH}) {
      due("answer clerk", x.answer(n, 1), 0);
      due("answer act", x.answer(1, n), 0);
    }
    CardIndex y = deque(1, PLAIN, 2);
    y.act(0, 0, HEAD, 0, 0);
    due("waited, without a run", y.waited(0, 0), NO);
    due("outcome, without a run", y.outcome(0, 0), NO);
    due("answer, without a run", y.answer(0, 0), 0);
    for (int i = 0; i < 4; i++) y.act(1, 0, LAST, i, 0);
    y.run();
    due("HEAD waited for the first LAST", y.waited(0, 0), 1);
    due("the third LAST finds one card there", y.waited(1, 2), 1);
    due("the fourth one has not begun", y.waited(1, 3), 0);
    waitedOften();
  }

  /** Another takes each card ahead of it, so that it begins to wait anew each time. */
  private static void waitedOften() {
    CardIndex x = deque(1, PLAIN, 3);
    x.act(0, 0, HEAD, 0, 0);
    for (int i = 0; i < 8; i++) x.act(1, 0, LAST, i, 0);
    for (int i = 0; i < 8; i++) x.act(2, 0, HEAD, 0, 0);
    due("nine times", play(x, "00" + "1111 2222 00".repeat(8)), 1);
    due("nine times", x.waited(0, 0), 9);
    told("nine times", x, 0, 0, WAITS, 0);
    due("nine times: steps", x.count(3), 2 + 8 * 10);
    for (int i = 0; i < 8; i++) told("the other one", x, 2, i, WELL, i);
  }

  // ---- promise 12

  private static void marks() {
    CardIndex x = desk(PLAIN, 2, QUEUE);
    x.act(0, 0, PUT, 5, 0);
    x.act(1, 0, POLL, 5, 0);
    x.run();
    bad("mark i", n -> x.mark(n, 0), LOW, -2, -1);
    bad("mark what", n -> x.mark(0, n), LOW, -2, -1, 4, 5, HIGH);
    mark("the first", x, 0, 0, 0, 0, 0);
    mark("the last", x, 3, 1, 0, 1, 7);
    for (int what = 0; what < 4; what++) {
      for (int i : new int[] {4, 5, 79, 80, 600, HIGH}) due("not so many", x.mark(i, what), NONE);
    }
    bad("BAD ahead of NONE", n -> x.mark(HIGH, n), -1, 4);
  }

  // ---- promise 13

  private static void counts() {
    CardIndex x = desk(PLAIN, 5, DEQUE);
    bad("count", n -> x.count(n), LOW, -2, -1, 6, 7, HIGH);
    int[] first = {1, 5, 0, NO, NO, NO};
    for (int what = 0; what < 6; what++) due("count " + what, x.count(what), first[what]);
    for (int c = 0; c < 5; c++) for (int i = 0; i < 8; i++) x.act(c, 0, TAIL, 0, 0);
    due("all wait", x.run(), 1);
    int[] want = {1, 5, 40, 10, 5, 5};
    for (int what = 0; what < 6; what++) due("all wait: count " + what, x.count(what), want[what]);
    bad("count with a run", n -> x.count(n), -1, 6);
    for (int c = 0; c < 5; c++) for (int i = 0; i < 8; i++) x.patience(c, i, 1);
    // With the last one that waits no STEP is done any more, so that it has no reason to be TIRED.
    due("all TIRED but the last one", x.run(), 1);
    due("one waits then", x.count(5), 1);
    due("its mark has no end", x.count(4) % 2, 1);
  }

  // ---- promise 14

  private static void sizes() {
    CardIndex x = desk(PLAIN, 1, MAP, QUEUE, DEQUE, COUNTER, COPIES, ONCE);
    bad("size without a run", n -> x.size(n), LOW, -1, 6, HIGH);
    for (int t = 0; t < 6; t++) due("size, NO", x.size(t), NO);
    x.run();
    bad("size", n -> x.size(n), LOW, -1, 6, 7, HIGH);
    for (int t = 0; t < 6; t++) due("size of an empty one", x.size(t), t == COUNTER ? 4 : 0);
    // A KEY that is MARKED, or whose making threw, has no VALUE.
    x.act(0, ONCE, MAKE, 1, 0);
    x.act(0, ONCE, MAKE, 2, 0);
    x.throwing(ONCE, 1, 1);
    x.run();
    due("KEYS that have a VALUE", x.size(ONCE), 1);
  }

  // ---- promise 15

  private static void cardNumbers() {
    CardIndex x = desk(PLAIN, 1, MAP, QUEUE, DEQUE, COUNTER, COPIES, ONCE);
    x.act(0, MAP, PUT, 31, 7);
    x.act(0, QUEUE, PUT, 7, 0);
    x.act(0, DEQUE, LAST, 7, 0);
    x.act(0, COUNTER, ADD, 7, 0);
    x.act(0, COPIES, PUT, 31, 7);
    x.act(0, ONCE, MAKE, 31, 7);
    for (int t = 0; t < 6; t++) due("card, NO", x.card(t, 0, 0), NO);
    x.run();
    bad("card tray", n -> x.card(n, 0, 0), LOW, -1, 6, HIGH);
    int[] keys = {31, 0, 0, 0, 31, 31};
    int before = 0;
    for (int t = 0; t < 6; t++) {
      int tray = t;
      int last = t == COUNTER ? 3 : 0;
      bad("card i", n -> x.card(tray, n, 0), LOW, -2, -1);
      bad("card what", n -> x.card(tray, 0, n), LOW, -1, 2, 3, HIGH);
      bad("card what, ahead of NONE", n -> x.card(tray, last + 1, n), -1, 2);
      due("what is refused asks nothing", x.asked(), before);
      due("card KEY", x.card(t, 0, 0), 1);
      due("card KEY", x.asked(), keys[t]);
      due("card VALUE", x.card(t, 0, 1), 1);
      due("card VALUE", x.asked(), t == ONCE ? 1005 : 7);
      due("the last one", x.card(t, last, 0), 1);
      before = t == COUNTER ? 3 : keys[t];
      due("the last one", x.asked(), before);
      for (int what = 0; what < 2; what++) {
        for (int i : new int[] {last + 1, last + 2, 31, 32, 64, HIGH}) due("no more", x.card(t, i, what), NONE);
      }
    }
  }

  // ---- promise 16

  private static void askedLast() {
    CardIndex x = desk(PLAIN, 1, QUEUE, MAP);
    x.act(0, 0, PUT, LOW, 0);
    x.act(0, 0, PUT, HIGH, 0);
    x.act(0, 0, PUT, 0, 0);
    x.run();
    due("asked before", x.asked(), 0);
    x.card(0, 0, 1);
    for (int i = 0; i < 2; i++) due("asked", x.asked(), LOW);
    x.card(0, 1, 1);
    due("asked", x.asked(), HIGH);
    due("NONE", x.card(0, 3, 0), NONE);
    due("NONE of an empty one", x.card(1, 0, 0), NONE);
    due("BAD", x.card(0, -1, 0), BAD);
    due("asked stays", x.asked(), HIGH);
    x.run();
    due("behind run()", x.asked(), HIGH);
    x.explore(1);
    x.fits(0);
    due("behind explore()", x.asked(), HIGH);
    x.clerk();
    due("NO", x.card(0, 0, 0), NO);
    due("behind NO", x.asked(), HIGH);
    x.clear();
    due("behind clear()", x.asked(), HIGH);
    CardIndex y = desk(PLAIN, 1, QUEUE);
    y.act(0, 0, PUT, 0, 0);
    y.act(0, 0, PUT, 5, 0);
    y.run();
    y.card(0, 1, 1);
    y.card(0, 0, 1);
    due("a VALUE of 0 is told too", y.asked(), 0);
  }

  // ---- promise 17

  private static void about() {
    CardIndex x = desk(PLAIN, 1, MAP, QUEUE, DEQUE, COUNTER, COPIES, ONCE);
    int[] kindOf = {MAP, MAP, MAP, DEQUE, ONCE, ONCE};
    for (int turn = 0; turn < 2; turn++) {
      for (int t = 0; t < 6; t++) {
        int tray = t;
        bad("about what", n -> x.about(tray, n), LOW, -1, 6, 7, HIGH);
        for (int what = 0; what < 6; what++) {
          int due = t != kindOf[what] ? BAD : turn == 0 ? NO : what == 2 ? 4 : 0;
          due("about " + t + ", " + what, x.about(t, what), due);
        }
      }
      for (int what = 0; what < 6; what++) {
        int w = what;
        bad("about tray", n -> x.about(n, w), LOW, -1, 6, 7, HIGH);
      }
      x.run();
    }
    x.act(0, DEQUE, CLOSE, 0, 0);
    x.act(0, DEQUE, CLOSE, 0, 0);
    x.run();
    due("CLOSED", x.about(DEQUE, 3), 1);
  }

  // ---- promise 24

  /** h = 31 h + v in 64 bits, running over; each v is an int with its sign. */
  private static void digests() {
    CardIndex x = desk(PLAIN, 5, COPIES, COUNTER);
    for (int c = 0; c < 5; c++) for (int i = 0; i < 8; i++) x.act(c, 0, GET, 0, 0);
    due("no run", x.digest(), 0);
    x.run();
    long h = 7;
    for (int i = 0; i < 40; i++) h = ((h * 31 + NONE_THERE) * 31) * 31;
    h *= 31;
    h = h * 31 + 4;
    for (int i = 0; i < 4; i++) h = (h * 31 + i) * 31;
    due("forty acts", x.digest(), h);
    x = desk(PLAIN, 1, QUEUE);
    x.act(0, 0, PUT, LOW, 0);
    x.run();
    h = 7L * 31;
    h = (h * 31 + LOW) * 31;
    h = (h * 31 + 1) * 31;
    h = h * 31 + LOW;
    due("below nothing", x.digest(), h);
    digestOfOneWhoWaited();
    x.explore(1);
    due("behind explore()", x.digest(), h);
    x.explore(61);
    due("behind a refused one", x.digest(), h);
    x.baton(0, 0);
    due("behind a change", x.digest(), 0);
  }

  private static void digestOfOneWhoWaited() {
    CardIndex x = deque(1, PLAIN, 3);
    x.act(0, 0, HEAD, 0, 0);
    x.act(1, 0, LAST, 5, 0);
    x.act(1, 0, HEAD, 0, 0);
    x.act(2, 0, CLOSE, 0, 0);
    play(x, "00 1111 1111 00 2222");
    long h = 7;
    for (int v : new int[] {CLOSED, 0, 2, WELL, 5, 0, WELL, 5, 0, WELL, 0, 0, 0}) h = h * 31 + v;
    due("one who waited twice", x.digest(), h);
  }

  // ---- promise 25

  private static void clearing() {
    CardIndex x = lively();
    int acts = x.count(2);
    int asked = x.asked();
    int tries = x.tries();
    long[] explored = new long[5];
    for (int i = 0; i < 5; i++) explored[i] = x.explored(i);
    due("how many ACTS there were", x.clear(), acts);
    due("asked stays", x.asked(), asked);
    due("tries stays", x.tries(), tries);
    for (int i = 0; i < 5; i++) due("explored stays", x.explored(i), explored[i]);
    for (int i = 0; i < 6; i++) due("count as at first", x.count(i), i < 3 ? 0 : NO);
    due("no digest", x.digest(), 0);
    due("no tray", x.size(0), BAD);
    due("no act", x.outcome(0, 0), BAD);
    due("no mark", x.mark(0, 0), NO);
    due("no first", x.first(), NO);
    due("none there any more", x.clear(), 0);
    due("a run of nothing", x.run(), 0);
    due("a run of nothing: digest", x.digest(), 7);
    due("a run ends with clear()", x.clear(), 0);
    due("no run", x.digest(), 0);
  }

  /** What was told ahead of clear() is forgotten: batons, patience, throwing, acts, trays. */
  private static void clearingAFullOne() {
    CardIndex x = desk(BARE, 5, DEQUE, ONCE, MAP, MAP, MAP, MAP);
    for (int c = 0; c < 5; c++) {
      for (int i = 0; i < 8; i++) {
        x.act(c, 0, HEAD, 0, 0);
        x.patience(c, i, 1);
      }
      x.baton(c, 4 - c);
    }
    x.throwing(1, 0, 9);
    x.run();
    due("forty", x.clear(), 40);
    for (int i = 0; i < 6; i++) due("tray again", x.tray(i == 0 ? DEQUE : ONCE, 1, PLAIN), i);
    due("trays full again", x.tray(MAP, 1, 0), FULL);
    for (int i = 0; i < 5; i++) due("clerk again", x.clerk(), i);
    due("clerks full again", x.clerk(), FULL);
    for (int i = 0; i < 8; i++) due("act again", x.act(0, 1, MAKE, 0, 0), i);
    due("acts full again", x.act(0, 1, MAKE, 0, 0), FULL);
    due("another clerk's begin with 0", x.act(1, 0, HEAD, 0, 0), 0);
    x.act(2, 1, MAKE, 1, 0);
    x.act(2, 1, MAKE, 1, 0);
    due("HEAD waits with no patience", x.run(), 1);
    told("HEAD", x, 1, 0, WAITS, 0);
    told("no throwing", x, 0, 0, WELL, 1000);
    mark("no baton, and no BARE", x, 0, 0, 0, 0, 0);
    due("the acts", x.clear(), 11);
  }

  // ---- "What is told of a RUN is so from run() on till the next call that is marked (C): NO else"

  private static Map<String, Call> tellers() {
    Map<String, Call> all = new LinkedHashMap<>();
    all.put("outcome", x -> x.outcome(0, 0));
    all.put("waited", x -> x.waited(0, 0));
    for (int what = 0; what < 4; what++) {
      int w = what;
      all.put("mark " + what, x -> x.mark(0, w));
      all.put("mark " + what + " of no such one", x -> x.mark(HIGH, w));
    }
    for (int what = 3; what < 6; what++) {
      int w = what;
      all.put("count " + what, x -> x.count(w));
    }
    int[] tray = {MAP, MAP, MAP, DEQUE, ONCE, ONCE};
    for (int i = 0; i < 6; i++) {
      int t = i;
      all.put("size " + i, x -> x.size(t));
      all.put("card " + i, x -> x.card(t, 0, 1));
      all.put("card of no such one " + i, x -> x.card(t, HIGH, 0));
      all.put("about " + i, x -> x.about(tray[t], t));
      all.put("fits " + i, x -> x.fits(t));
      all.put("order " + i, x -> x.order(t, 0));
      all.put("order of no such one " + i, x -> x.order(t, HIGH));
    }
    all.put("first", x -> x.first());
    return all;
  }

  private static void tellNo(String when, CardIndex x) {
    for (Map.Entry<String, Call> teller : tellers().entrySet()) {
      due(when + ": " + teller.getKey(), teller.getValue().on(x), NO);
    }
    due(when + ": answer", x.answer(0, 0), 0);
    due(when + ": digest", x.digest(), 0);
  }

  private static void tell(String when, CardIndex x) {
    for (Map.Entry<String, Call> teller : tellers().entrySet()) {
      due(when + ": " + teller.getKey(), teller.getValue().on(x) != NO);
    }
    due(when + ": digest", x.digest() != 0);
  }

  /** Trays of all kinds by their kinds' numbers, two clerks, and an act on each tray. */
  private static CardIndex ready() {
    CardIndex x = desk(PLAIN, 2, ALL_KINDS);
    for (int t = 0; t < 6; t++) x.act(0, t, 0, 5, 5);
    return x;
  }

  private static void noRunYet() {
    CardIndex x = ready();
    tellNo("no run yet", x);
    x.run();
    tell("behind run()", x);
    x.clear();
    x = ready();
    x.explore(1);
    tell("behind explore()", x);
    x = ready();
    x.explore(0);
    tellNo("behind a refused explore()", x);
  }

  private static void eachChangeEndsTheRun() {
    Map<String, Call> changes = new LinkedHashMap<>();
    changes.put("clerk", x -> x.clerk());
    changes.put("act", x -> x.act(1, 0, 0, 0, 0));
    changes.put("baton", x -> x.baton(599, NONE));
    changes.put("patience", x -> x.patience(0, 0, 0));
    changes.put("throwing", x -> x.throwing(ONCE, 0, 0));
    for (Map.Entry<String, Call> change : changes.entrySet()) {
      CardIndex x = ready();
      x.run();
      due(change.getKey(), change.getValue().on(x) >= 0);
      tellNo("behind " + change.getKey(), x);
      x.run();
      tell("run() behind " + change.getKey(), x);
    }
    CardIndex x = new CardIndex();
    x.tray(MAP, 1, 0);
    x.run();
    x.tray(MAP, 1, 0);
    due("behind tray", x.size(0), NO);
    due("behind tray: digest", x.digest(), 0);
  }

  // ---- "Refused, changing nothing, the first of: BAD; NO; FULL"

  private static void badAheadOfNo() {
    CardIndex x = ready();
    due("outcome", x.outcome(2, 0), BAD);
    due("waited", x.waited(0, 6), BAD);
    due("mark", x.mark(-1, 0), BAD);
    due("mark what", x.mark(0, 4), BAD);
    due("count", x.count(6), BAD);
    due("size", x.size(6), BAD);
    due("card", x.card(6, 0, 0), BAD);
    due("card i", x.card(0, -1, 0), BAD);
    due("card what", x.card(0, 0, 2), BAD);
    due("about", x.about(6, 0), BAD);
    due("about another KIND", x.about(MAP, 3), BAD);
    due("fits", x.fits(6), BAD);
    due("order", x.order(-1, 0), BAD);
    due("order looks at the TRAY alone", x.order(0, -1), NO);
    due("answer", x.answer(2, 0), 0);
  }

  private static void badAheadOfFull() {
    CardIndex x = desk(PLAIN, 5, ONCE, DEQUE, MAP, MAP, MAP, MAP);
    for (int i = 0; i < 8; i++) x.act(0, 2, 0, 0, 0);
    due("tray kind", x.tray(6, 1, 0), BAD);
    due("tray fault", x.tray(0, 1, 3), BAD);
    due("tray a", x.tray(DEQUE, 9, 0), BAD);
    due("tray", x.tray(DEQUE, 8, 0), FULL);
    due("tray, a is not looked at", x.tray(MAP, 9, 0), FULL);
    due("act tray", x.act(0, 6, 0, 0, 0), BAD);
    due("act op", x.act(0, 0, 1, 0, 0), BAD);
    due("act key", x.act(0, 0, 0, 32, 0), BAD);
    due("act clerk", x.act(5, 0, 0, 0, 0), BAD);
    due("act", x.act(0, 0, 0, 31, 0), FULL);
  }

  /** All six KINDS, a run, something asked, tried and explored, so that any change can be seen. */
  private static CardIndex lively() {
    CardIndex x = new CardIndex();
    int[] faults = {BARE, PLAIN, EARLY, BARE, PLAIN, PLAIN};
    for (int t = 0; t < 6; t++) x.tray(t, 1, faults[t]);
    for (int c = 0; c < 5; c++) x.clerk();
    for (int i = 0; i < 2; i++) for (int c = 0; c < 5; c++) x.act(c, (c + i) % 6, 0, c, 5 + c);
    x.act(0, ONCE, MAKE, 1, 0);
    x.act(1, DEQUE, HEAD, 0, 0);
    x.act(2, DEQUE, HEAD, 0, 0);
    for (int i = 0; i < 6; i++) x.act(4, COPIES, PUT, i, i);
    x.patience(2, 2, 3);
    x.throwing(ONCE, 1, 1);
    for (int i = 0; i < 40; i++) x.baton(i, (i * i + i / 3) % 5);
    x.explore(7);
    x.card(COPIES, 1, 1);
    x.fits(COPIES);
    return x;
  }

  private static long[] picture(CardIndex x) {
    List<Long> all = new ArrayList<>();
    all.add(x.digest());
    for (int i = 0; i < 6; i++) all.add((long) x.count(i));
    for (int i = 0; i < 5; i++) all.add((long) x.explored(i));
    all.add((long) x.tries());
    all.add((long) x.asked());
    for (int i = 0; i < 30; i++) all.add((long) x.mark(i, 3));
    return all.stream().mapToLong(Long::longValue).toArray();
  }

  private static Map<String, Call> refusals() {
    Map<String, Call> all = new LinkedHashMap<>();
    for (int n : new int[] {LOW, -1, 6, HIGH}) {
      all.put("tray kind " + n, x -> x.tray(n, 1, 0));
      all.put("tray fault " + n, x -> x.tray(0, 1, n));
      all.put("act clerk " + n, x -> x.act(n, 0, 0, 0, 0));
      all.put("act tray " + n, x -> x.act(0, n, 0, 0, 0));
      all.put("act op " + n, x -> x.act(0, 0, n, 0, 0));
      all.put("baton clerk " + n, x -> x.baton(0, n == -1 ? -2 : n));
      all.put("patience clerk " + n, x -> x.patience(n, 0, 1));
      all.put("throwing tray " + n, x -> x.throwing(n, 0, 1));
      all.put("outcome " + n, x -> x.outcome(n, 0));
      all.put("waited " + n, x -> x.waited(n, 0));
      all.put("mark what " + n, x -> x.mark(0, n));
      all.put("count " + n, x -> x.count(n));
      all.put("size " + n, x -> x.size(n));
      all.put("card tray " + n, x -> x.card(n, 0, 1));
      all.put("card what " + n, x -> x.card(1, 0, n));
      all.put("about tray " + n, x -> x.about(n, 0));
      all.put("about what " + n, x -> x.about(0, n));
      all.put("fits " + n, x -> x.fits(n));
      all.put("order " + n, x -> x.order(n, 0));
      all.put("explored " + n, x -> x.explored(n));
    }
    for (int n : new int[] {LOW, -1, 1 << 16, HIGH}) {
      all.put("tray a " + n, x -> x.tray(DEQUE, n, 0));
      all.put("act key " + n, x -> x.act(0, MAP, 0, n, 0));
      all.put("baton i " + n, x -> x.baton(n, 0));
      all.put("patience act " + n, x -> x.patience(0, n, 1));
      all.put("patience n " + n, x -> x.patience(0, 0, n));
      all.put("throwing key " + n, x -> x.throwing(ONCE, n, 1));
      all.put("throwing n " + n, x -> x.throwing(ONCE, 0, n));
      all.put("explore " + n, x -> x.explore(n));
    }
    all.put("throwing of no ONCE", x -> x.throwing(MAP, 1, 2));
    all.put("about another KIND", x -> x.about(DEQUE, 4));
    all.put("mark i", x -> x.mark(-1, 0));
    all.put("card i", x -> x.card(1, -1, 1));
    all.put("patience 101", x -> x.patience(2, 2, 101));
    all.put("throwing 10", x -> x.throwing(ONCE, 1, 10));
    all.put("explore 0", x -> x.explore(0));
    all.put("explore 61", x -> x.explore(61));
    return all;
  }

  private static void refusedChangesNothing() {
    long[] at = picture(lively());
    CardIndex again = lively();
    again.run();
    long[] then = picture(again);
    due("lively pictures are of a run", at[0] != 0);
    for (Map.Entry<String, Call> refusal : refusals().entrySet()) {
      CardIndex x = lively();
      due(refusal.getKey(), refusal.getValue().on(x), BAD);
      due(refusal.getKey() + " changes nothing", Arrays.equals(picture(x), at));
      x.run();
      due(refusal.getKey() + " changes no run", Arrays.equals(picture(x), then));
    }
    Map<String, Call> full = new LinkedHashMap<>();
    full.put("tray", x -> x.tray(ONCE, 1, 1));
    full.put("tray DEQUE", x -> x.tray(DEQUE, 1, 1));
    full.put("clerk", x -> x.clerk());
    full.put("act", x -> x.act(4, 0, 0, 0, 0));
    for (Map.Entry<String, Call> refusal : full.entrySet()) {
      CardIndex x = lively();
      due(refusal.getKey() + " FULL", refusal.getValue().on(x), FULL);
      due(refusal.getKey() + " FULL changes nothing", Arrays.equals(picture(x), at));
      x.run();
      due(refusal.getKey() + " FULL changes no run", Arrays.equals(picture(x), then));
    }
    Map<String, Call> none = new LinkedHashMap<>();
    none.put("mark", x -> x.mark(HIGH, 0));
    none.put("card", x -> x.card(COPIES, HIGH, 1));
    for (Map.Entry<String, Call> refusal : none.entrySet()) {
      CardIndex x = lively();
      due(refusal.getKey() + " NONE", refusal.getValue().on(x), NONE);
      due(refusal.getKey() + " NONE changes nothing", Arrays.equals(picture(x), at));
    }
    CardIndex x = lively();
    due("answer of none", x.answer(5, 0), 0);
    due("answer of none changes nothing", Arrays.equals(picture(x), at));
  }

  private static void refusedWithoutARun() {
    for (Map.Entry<String, Call> teller : tellers().entrySet()) {
      CardIndex x = lively();
      x.baton(0, 4);
      long[] at = picture(x);
      due(teller.getKey() + " without a run", teller.getValue().on(x), NO);
      due(teller.getKey() + ", NO, changes nothing", Arrays.equals(picture(x), at));
    }
  }

  /** But for tries() and asked(), which are told of. */
  private static void tellingChangesNothing() {
    CardIndex x = lively();
    long digest = x.digest();
    int steps = x.count(3);
    for (Call teller : tellers().values()) {
      teller.on(x);
      due("telling: digest", x.digest(), digest);
      due("telling: steps", x.count(3), steps);
    }
    x.run();
    due("telling changes no run", x.digest(), digest);
  }

  // ---- "An object is used for at most 512 calls"

  private static void fiveHundredAndTwelveCalls() {
    CardIndex x = desk(PLAIN, 1, QUEUE);
    x.act(0, 0, PUT, 5, 0);
    for (int call = 3; call < 510; call += 3) {
      due("run", x.run(), 0);
      due("card", x.card(0, 0, 1), 1);
      due("asked", x.asked(), 5);
    }
    due("the 511th", x.size(0), 1);
    due("the 512th", x.answer(0, 0), 5);
    x = new CardIndex();
    int calls = 0;
    for (int round = 0; calls < 500; round++) {
      due("tray of round " + round, x.tray(MAP, 1, 0), 0);
      due("clerk of round " + round, x.clerk(), 0);
      due("act of round " + round, x.act(0, 0, PUT, round % 32, round), 0);
      due("run of round " + round, x.run(), 0);
      due("card of round " + round, x.card(0, 0, 1), 1);
      due("asked of round " + round, x.asked(), round);
      due("fits of round " + round, x.fits(0), 1);
      due("clear of round " + round, x.clear(), 1);
      calls += 8;
    }
    for (; calls < 512; calls++) due("the last calls", x.count(calls % 3), 0);
  }

  /** The calls that README.md shows, with the answers that it tells. */
  private static void exampleOfTheReadme() {
    CardIndex x = new CardIndex();
    int map = x.tray(0, 0, 1);
    int ann = x.clerk(), bob = x.clerk();
    x.act(ann, map, 3, 7, 1);
    x.act(bob, map, 3, 7, 1);
    x.baton(0, ann);
    x.baton(1, bob);
    x.baton(2, ann);
    x.baton(3, bob);
    due("README: run", x.run(), 0);
    due("README: answer", x.answer(bob, 0), 1);
    due("README: fits", x.fits(map), 0);
    due("README: explore", x.explore(60), 60);
    due("README: explored", x.explored(2), 35);
  }
}
