/** For each promise of the document what it names: ordinary inputs, edges, wrong inputs. */
public final class PromisesTest extends Asking {
  public static void main(String[] args) {
    promise1();
    promise2();
    promise3();
    promise4();
    promise5();
    promise6();
    promise7();
    promise8();
    mapsRun();
    queuesRun();
    dequesRun();
    countersRun();
    copiesRun();
    onceRuns();
    promises9To11();
    promise12();
    promise13();
    promises14To16();
    promise17();
    promise18();
    checkerOfEachKind();
    promise19();
    promises20And21();
    promise22();
    promise23();
    promise24();
    promise25();
    refusalsChangeNothing();
    changesEndTheRun();
    end("PromisesTest");
  }

  private static void promise1() {
    CardIndex x = new CardIndex();
    for (int i = 0; i < 3; i++) due("1 count", x.count(i), 0);
    due("1 steps", x.count(3), NO);
    due("1 asked", x.asked(), 0);
    due("1 tries", x.tries(), 0);
    for (int i = 0; i < 5; i++) due("1 explored", x.explored(i), 0);
    due("1 digest", x.digest(), 0);
    due("1 first", x.first(), NO);
    due("1 outcome", x.outcome(0, 0), BAD);
    due("1 clear", x.clear(), 0);
  }

  private static void promise2() {
    CardIndex x = new CardIndex();
    for (int kind : new int[] {-1, 6, HIGH, LOW}) due("2 kind", x.tray(kind, 1, 0), BAD);
    for (int fault : new int[] {-1, 3, HIGH, LOW}) due("2 fault", x.tray(MAP, 1, fault), BAD);
    for (int a : new int[] {0, 9, -1, HIGH, LOW}) due("2 deque", x.tray(DEQUE, a, 0), BAD);
    due("2 deque 1", x.tray(DEQUE, 1, 2), 0);
    due("2 deque 8", x.tray(DEQUE, 8, 1), 1);
    due("2 map", x.tray(MAP, -5, 0), 2);
    due("2 once", x.tray(ONCE, 99, 2), 3);
    due("2 queue", x.tray(QUEUE, LOW, 0), 4);
    due("2 copies", x.tray(COPIES, HIGH, 0), 5);
    due("2 full", x.tray(COUNTER, 1, 0), FULL);
    due("2 bad ahead of full", x.tray(COUNTER, 1, 3), BAD);
    due("2 bad deque ahead of full", x.tray(DEQUE, 9, 0), BAD);
    due("2 count", x.count(0), 6);
  }

  private static void promise3() {
    CardIndex x = new CardIndex();
    for (int i = 0; i < 5; i++) due("3 clerk", x.clerk(), i);
    due("3 full", x.clerk(), FULL);
    due("3 count", x.count(1), 5);
  }

  private static void promise4() {
    CardIndex x = desk(PLAIN, 3, MAP, QUEUE, DEQUE, COUNTER, COPIES, ONCE);
    int[] ops = {4, 2, 5, 2, 4, 1};
    for (int tray = 0; tray < 6; tray++) {
      due("4 op", x.act(0, tray, ops[tray], 0, 0), BAD);
      due("4 op -1", x.act(0, tray, -1, 0, 0), BAD);
      due("4 last op", x.act(0, tray, ops[tray] - 1, 31, LOW), tray);
    }
    for (int tray : new int[] {0, 4, 5}) {
      due("4 key 32", x.act(0, tray, 0, 32, 0), BAD);
      due("4 key -1", x.act(0, tray, 0, -1, 0), BAD);
    }
    due("4 map add with no key", x.act(0, 0, 3, 32, 0), BAD);
    due("4 all looks at no key", x.act(1, 4, 3, -1, 0), 0);
    due("4 any value of a queue", x.act(1, 1, 0, LOW, 0), 1);
    due("4 any value of a deque", x.act(1, 2, 1, 32, 0), 2);
    due("4 any value of a counter", x.act(1, 3, 0, HIGH, 0), 3);
    due("4 no clerk", x.act(3, 0, 0, 0, 0), BAD);
    due("4 clerk -1", x.act(-1, 0, 0, 0, 0), BAD);
    due("4 no tray", x.act(0, 6, 0, 0, 0), BAD);
    due("4 tray -1", x.act(0, -1, 0, 0, 0), BAD);
    for (int i = 0; i < 8; i++) due("4 number", x.act(2, 0, 0, i, 0), i);
    due("4 full", x.act(2, 0, 0, 0, 0), FULL);
    due("4 bad ahead of full", x.act(2, 0, 0, 32, 0), BAD);
    due("4 count", x.count(2), 6 + 4 + 8);
  }

  private static void promise5() {
    CardIndex x = desk(PLAIN, 2, COPIES);
    for (int i : new int[] {-1, 600, HIGH, LOW}) due("5 i", x.baton(i, 0), BAD);
    for (int c : new int[] {-2, 5, HIGH, LOW}) due("5 clerk", x.baton(0, c), BAD);
    for (int c = 0; c < 2; c++) for (int i = 0; i < 3; i++) x.act(c, 0, 1, i, 0);
    due("5 first", x.baton(0, 1), 1);
    due("5 last", x.baton(599, 4), 1);
    due("5 one who is not there", x.baton(1, 4), 1);
    due("5 named", x.baton(2, 1), 1);
    due("5 named twice", x.baton(3, 1), 1);
    due("5 taken back", x.baton(3, NONE), 1);
    due("5 run", x.run(), 0);
    int[] clerks = {1, 0, 1, 0, 0, 1};
    for (int i = 0; i < 6; i++) due("5 who did step " + i, x.mark(2 * i, 0), clerks[i]);
    x.baton(4, 0);
    x.baton(5, 0);
    x.run();
    due("5 the one named has no act left", x.mark(10, 0), 1);
  }

  private static void promise6() {
    CardIndex x = desk(PLAIN, 2, DEQUE, COPIES);
    due("6 no act", x.patience(0, 0, 1), BAD);
    x.act(0, 0, 2, 0, 0);
    for (int i = 0; i < 8; i++) x.act(1, 1, 1, 0, 0);
    for (int n : new int[] {-1, 101, HIGH, LOW}) due("6 n", x.patience(0, 0, n), BAD);
    for (int c : new int[] {-1, 2, HIGH}) due("6 clerk", x.patience(c, 0, 1), BAD);
    for (int i : new int[] {-1, 1, HIGH}) due("6 act", x.patience(0, i, 1), BAD);
    due("6 run without", x.run(), 1);
    told("6 waits", x, 0, 0, 5, 0);
    for (int n = 1; n <= 8; n++) {
      due("6 patience", x.patience(0, 0, n), 1);
      due("6 run", x.run(), 0);
      told("6 tired", x, 0, 0, 4, 0);
      due("6 waited", x.waited(0, 0), 1);
      due("6 steps", x.count(3), 11);
      due("6 tired at", x.mark(1 + 2 * n, 3), 2 + n);
      due("6 tired is an end", x.mark(1 + 2 * n, 2), 1);
      due("6 tired one", x.mark(1 + 2 * n, 0), 0);
    }
    due("6 most", x.patience(0, 0, 100), 1);
    due("6 nobody steps on", x.run(), 1);
    x.patience(0, 0, 3);
    due("6 none again", x.patience(0, 0, 0), 1);
    due("6 run with none", x.run(), 1);
    patienceBeginsAnew();
  }

  /** HEAD waits, is woken by a FIRST whose card another HEAD takes, and waits once more. */
  private static void patienceBeginsAnew() {
    CardIndex x = desk(PLAIN, 3, DEQUE, COPIES);
    x.act(0, 0, 2, 0, 0);
    x.act(1, 0, 1, 7, 0);
    x.act(1, 0, 2, 0, 0);
    for (int i = 0; i < 8; i++) x.act(2, 1, 1, 0, 0);
    x.patience(0, 0, 5);
    batons(x, 0, 0, 1, 1, 1, 1, 1, 1, 1, 1, 0, 0, 2, 2, 2, 2, 2, 2, 2, 2);
    due("6 anew", x.run(), 0);
    told("6 anew", x, 0, 0, 4, 0);
    due("6 anew waited", x.waited(0, 0), 2);
    told("6 the other HEAD", x, 1, 1, 0, 7);
    due("6 anew steps", x.count(3), 21);
    x.baton(17, 0);
    x.run();
    // It began to wait with STEP 11, so that it is able from STEP 17 on.
    due("6 anew tired at", x.mark(5 + 10, 3), 17);
    due("6 anew tired one", x.mark(5 + 10, 0), 0);
    x.baton(16, 0);
    x.run();
    due("6 anew not able at 16", x.mark(5 + 9, 0), 2);
  }

  private static void promise7() {
    CardIndex x = desk(PLAIN, 1, ONCE, MAP);
    for (int n : new int[] {-1, 10, HIGH, LOW}) due("7 n", x.throwing(0, 0, n), BAD);
    for (int k : new int[] {-1, 32, HIGH, LOW}) due("7 key", x.throwing(0, k, 1), BAD);
    for (int t : new int[] {-1, 2, HIGH, 1}) due("7 tray", x.throwing(t, 0, 1), BAD);
    for (int i = 0; i < 4; i++) x.act(0, 0, 0, 31, 0);
    x.act(0, 0, 0, 30, 0);
    due("7 told", x.throwing(0, 31, 2), 1);
    for (int again = 0; again < 2; again++) {
      due("7 run", x.run(), 0);
      told("7 first", x, 0, 0, 3, 0);
      told("7 second", x, 0, 1, 3, 0);
      told("7 third", x, 0, 2, 0, 1002);
      told("7 fourth", x, 0, 3, 0, 1002);
      told("7 other key", x, 0, 4, 0, 1004);
      due("7 makings", x.about(0, 4), 4);
      due("7 threw", x.about(0, 5), 2);
      due("7 fits", x.fits(0), 1);
    }
    due("7 nine", x.throwing(0, 31, 9), 1);
    x.run();
    told("7 all throw", x, 0, 3, 3, 0);
    due("7 none", x.throwing(0, 31, 0), 1);
    x.run();
    told("7 none throws", x, 0, 0, 0, 1000);
  }

  private static void promise8() {
    CardIndex x = desk(PLAIN, 2, DEQUE);
    due("8 no acts", x.run(), 0);
    x.act(0, 0, 2, 0, 0);
    x.act(1, 0, 0, 5, 0);
    due("8 woken", x.run(), 0);
    due("8 steps", x.count(3), 2 + 4 + 4);
    due("8 waited", x.waited(0, 0), 1);
    x.act(1, 0, 2, 0, 0);
    due("8 stuck", x.run(), 1);
    due("8 nothing left over of the last run", x.size(0), 0);
    due("8 again", x.run(), 1);
    due("8 same steps", x.count(3), 10 + 2);
  }

  private static void mapsRun() {
    CardIndex x = desk(PLAIN, 2, MAP);
    x.act(0, 0, 1, 4, 0);
    x.act(0, 0, 0, 4, 9);
    x.act(0, 0, 0, 4, 8);
    x.act(0, 0, 3, 4, HIGH);
    x.act(0, 0, 2, 4, 0);
    x.act(0, 0, 2, 4, 0);
    x.act(0, 0, 3, 5, -3);
    x.act(0, 0, 0, 6, 0);
    due("8 map", x.run(), 0);
    told("8 GET of none", x, 0, 0, 1, 0);
    told("8 PUT on none", x, 0, 1, 1, 0);
    told("8 PUT again", x, 0, 2, 0, 9);
    told("8 ADD wraps", x, 0, 3, 0, 8 + HIGH);
    told("8 OUT", x, 0, 4, 0, 8 + HIGH);
    told("8 OUT of none", x, 0, 5, 1, 0);
    told("8 ADD on none", x, 0, 6, 0, -3);
    cards("8 map", x, 0, 5, -3, 6, 0);
    due("8 map steps", x.count(3), 3 + 7 * 4);
    due("8 map fits", x.fits(0), 1);
    mapMonitors();
    mapFaults();
  }

  /** A monitor stops acts on its stripe alone. */
  private static void mapMonitors() {
    CardIndex x = desk(PLAIN, 2, MAP);
    x.act(0, 0, 0, 1, 1);
    x.act(1, 0, 0, 5, 2);
    batons(x, 0, 1, 1, 1, 1);
    x.run();
    due("8 same stripe: begins when it is given", x.mark(2, 3), 4);
    x = desk(PLAIN, 2, MAP);
    x.act(0, 0, 0, 1, 1);
    x.act(1, 0, 0, 6, 2);
    batons(x, 0, 1, 1, 1, 1);
    x.run();
    due("8 other stripe: goes on", x.mark(2, 3), 4);
    due("8 other stripe: the other one ends", x.mark(2, 0), 1);
  }

  private static void mapFaults() {
    for (int fault = 0; fault < 3; fault++) {
      CardIndex x = desk(fault, 2, MAP);
      x.act(0, 0, 3, 1, 1);
      x.act(1, 0, 3, 1, 1);
      batons(x, 0, 0, 0, 1, 1, 1);
      x.run();
      told("8 ADD one", x, 0, 0, 0, 1);
      // BARE: 0 has written by then; EARLY: it has given ahead of its WRITE.
      told("8 ADD other, fault " + fault, x, 1, 0, 0, fault == EARLY ? 1 : 2);
      due("8 fits, fault " + fault, x.fits(0), fault == EARLY ? 0 : 1);
      batons(x, 0, 0, 1, 1, 0, 0);
      x.run();
      told("8 ADD other, in between, fault " + fault, x, 1, 0, 0, fault == PLAIN ? 2 : fault == BARE ? 1 : 2);
      due("8 fits, in between, fault " + fault, x.fits(0), fault == BARE ? 0 : 1);
      due("8 steps", x.count(3), 8);
    }
  }

  private static void queuesRun() {
    CardIndex x = desk(PLAIN, 2, QUEUE);
    x.act(0, 0, 1, 0, 0);
    x.act(0, 0, 0, 5, 0);
    x.act(0, 0, 0, 6, 0);
    x.act(0, 0, 0, 5, 0);
    x.act(0, 0, 1, 0, 0);
    due("8 queue", x.run(), 0);
    told("8 POLL of none", x, 0, 0, 1, 0);
    told("8 queue PUT", x, 0, 1, 0, 5);
    told("8 POLL", x, 0, 4, 0, 5);
    cards("8 queue", x, 0, 0, 6, 1, 5);
    due("8 queue fits", x.fits(0), 1);
    x = desk(BARE, 2, QUEUE);
    x.act(0, 0, 0, 5, 0);
    x.act(0, 0, 1, 0, 0);
    x.act(1, 0, 1, 0, 0);
    batons(x, 0, 0, 0, 0, 0, 0, 1, 1, 0, 1);
    x.run();
    told("8 two POLL the same", x, 0, 1, 0, 5);
    told("8 two POLL the same", x, 1, 0, 0, 5);
    cards("8 queue", x, 0);
    due("8 two POLL: no order", x.fits(0), 0);
    // PUT and POLL have monitors of their own: a POLL that noted none takes nothing out.
    x = desk(PLAIN, 2, QUEUE);
    x.act(0, 0, 1, 0, 0);
    x.act(1, 0, 0, 5, 0);
    batons(x, 0, 0, 1, 1, 1, 1);
    x.run();
    told("8 POLL noted none", x, 0, 0, 1, 0);
    cards("8 it stays", x, 0, 0, 5);
    due("8 POLL then PUT", x.order(0, 0), 0);
  }

  private static void dequesRun() {
    CardIndex x = desk(PLAIN, 2, DEQUE);
    x.act(0, 0, 0, 5, 0);
    x.act(0, 0, 1, 6, 0);
    x.act(0, 0, 3, 0, 0);
    x.act(0, 0, 1, 7, 0);
    x.act(0, 0, 4, 0, 0);
    x.act(0, 0, 0, 8, 0);
    x.act(0, 0, 2, 0, 0);
    x.act(0, 0, 4, 0, 0);
    due("8 deque", x.run(), 0);
    told("8 LAST", x, 0, 0, 0, 5);
    told("8 FIRST", x, 0, 1, 0, 6);
    told("8 TAIL", x, 0, 2, 0, 5);
    told("8 CLOSE", x, 0, 4, 0, 0);
    told("8 LAST on a closed one", x, 0, 5, 2, 0);
    told("8 HEAD of a closed one", x, 0, 6, 0, 7);
    told("8 CLOSE again", x, 0, 7, 0, 0);
    cards("8 deque", x, 0, 0, 6);
    due("8 closed", x.about(0, 3), 1);
    due("8 deque fits", x.fits(0), 1);
    x.act(1, 0, 2, 0, 0);
    x.act(1, 0, 3, 0, 0);
    x.run();
    told("8 the last one", x, 1, 0, 0, 6);
    told("8 TAIL of an empty closed one", x, 1, 1, 2, 0);
    dequeWaits();
  }

  private static void dequeWaits() {
    CardIndex x = new CardIndex();
    x.tray(DEQUE, 1, EARLY);
    for (int c = 0; c < 2; c++) x.clerk();
    x.act(0, 0, 0, 5, 0);
    x.act(1, 0, 0, 6, 0);
    batons(x, 0, 0, 0, 1, 1);
    x.run();
    cards("8 put though full by now", x, 0, 0, 5, 1, 6);
    due("8 too many: no order", x.fits(0), 0);
    x = new CardIndex();
    x.tray(DEQUE, 1, PLAIN);
    for (int c = 0; c < 3; c++) x.clerk();
    x.act(0, 0, 1, 5, 0);
    x.act(0, 0, 1, 6, 0);
    x.act(1, 0, 4, 0, 0);
    x.run();
    told("8 woken by CLOSE", x, 0, 1, 2, 0);
    due("8 woken by CLOSE", x.waited(0, 1), 1);
    due("8 woken: takes again", x.count(3), 4 + 2 + 4 + 4);
    due("8 begins but once", x.count(4), 6);
    x.act(2, 0, 2, 0, 0);
    batons(x, 0, 0, 0, 0, 0, 0, 2, 2, 2, 2);
    x.run();
    told("8 room by HEAD", x, 0, 1, 0, 6);
    told("8 HEAD", x, 2, 0, 0, 5);
    cards("8 then", x, 0, 0, 6);
  }

  private static void countersRun() {
    CardIndex x = desk(PLAIN, 5, COUNTER);
    for (int c = 0; c < 5; c++) x.act(c, 0, 0, 10 + c, 0);
    x.act(0, 0, 1, 0, 0);
    x.act(4, 0, 0, HIGH, 0);
    batons(x, 0, 0, 0, 0, 4, 4, 4, 4, 1, 1, 1, 1, 2, 2, 2, 2, 3, 3, 3, 3);
    due("8 counter", x.run(), 0);
    told("8 clerk 4 shares with 0", x, 4, 0, 0, 24);
    told("8 SUM", x, 0, 1, 0, 60);
    told("8 ADD wraps", x, 4, 1, 0, 24 + HIGH);
    cards("8 counter", x, 0, 0, 24 + HIGH, 1, 11, 2, 12, 3, 13);
    due("8 counter steps", x.count(3), 6 * 4 + 9);
    due("8 counter fits", x.fits(0), 1);
    // SUM takes all monitors one by one, and stands before the third.
    x = desk(PLAIN, 3, COUNTER);
    x.act(0, 0, 1, 0, 0);
    x.act(1, 0, 0, 1, 0);
    x.act(2, 0, 0, 2, 0);
    batons(x, 2, 2, 0, 0, 0, 1, 2, 2);
    x.run();
    told("8 SUM between", x, 0, 0, 0, 2);
    due("8 SUM begins second", x.mark(1, 0), 0);
    due("8 ADD 2 ends ahead of SUM", x.mark(2, 0), 2);
  }

  private static void copiesRun() {
    CardIndex x = desk(PLAIN, 2, COPIES);
    x.act(0, 0, 1, 3, 0);
    x.act(0, 0, 3, 99, 0);
    x.act(0, 0, 0, 31, HIGH);
    x.act(0, 0, 0, 3, -7);
    x.act(0, 0, 3, 0, 0);
    x.act(0, 0, 1, 3, 0);
    x.act(0, 0, 2, 3, 0);
    x.act(0, 0, 2, 3, 0);
    due("8 copies", x.run(), 0);
    told("8 copies GET of none", x, 0, 0, 1, 0);
    told("8 ALL of none", x, 0, 1, 0, 0);
    told("8 copies PUT on none", x, 0, 2, 1, 0);
    told("8 ALL", x, 0, 4, 0, 32 * HIGH + 4 * -7);
    told("8 copies GET", x, 0, 5, 0, -7);
    told("8 copies OUT", x, 0, 6, 0, -7);
    told("8 copies OUT of none", x, 0, 7, 1, 0);
    cards("8 copies", x, 0, 31, HIGH);
    due("8 copies steps", x.count(3), 4 * 4 + 4);
    due("8 copies fits", x.fits(0), 1);
    x = desk(BARE, 2, COPIES);
    x.act(0, 0, 0, 1, 5);
    x.act(1, 0, 0, 2, 6);
    batons(x, 0, 0, 1, 1, 0, 1);
    x.run();
    cards("8 the other's card is lost", x, 0, 2, 6);
    due("8 lost: no order", x.fits(0), 0);
    due("8 lost: all tried", x.tries(), 4);
  }

  private static void onceRuns() {
    CardIndex x = desk(PLAIN, 3, ONCE);
    x.act(0, 0, 0, 9, 0);
    x.act(1, 0, 0, 9, 0);
    x.act(2, 0, 0, 3, 0);
    batons(x, 0, 0, 0, 0, 1, 1, 2, 2, 2, 2, 2, 2, 2, 2, 1, 1);
    due("8 once", x.run(), 0);
    told("8 MAKE", x, 0, 0, 0, 1000);
    told("8 waited for it", x, 1, 0, 0, 1000);
    told("8 MAKE of another key", x, 2, 0, 0, 3000);
    due("8 woken by each write, waits again", x.waited(1, 0), 2);
    due("8 once steps", x.count(3), 8 + 8 + 2 + 2 + 3);
    cards("8 once", x, 0, 3, 3000, 9, 1000);
    due("8 once fits", x.fits(0), 1);
    x.throwing(0, 9, 1);
    x.run();
    told("8 THREW", x, 0, 0, 3, 0);
    told("8 makes in its place", x, 1, 0, 0, 2000);
    due("8 makings", x.about(0, 4), 3);
    // BARE: both look ahead of the marks, and the later VALUE stays.
    x = desk(BARE, 2, ONCE);
    x.act(0, 0, 0, 9, 0);
    x.act(1, 0, 0, 9, 0);
    batons(x, 0, 0, 1, 1);
    x.run();
    told("8 one made", x, 0, 0, 0, 1000);
    told("8 the other made too", x, 1, 0, 0, 2000);
    cards("8 the later VALUE", x, 0, 9, 2000);
    due("8 two made: no order", x.fits(0), 0);
    // EARLY: the second GIVE stands ahead of WRITE, so that another can look in between.
    x = desk(EARLY, 2, ONCE);
    x.act(0, 0, 0, 9, 0);
    x.act(1, 0, 0, 9, 0);
    batons(x, 0, 0, 0, 0, 0, 0, 0, 1, 1);
    x.run();
    due("8 given ahead of WRITE", x.waited(1, 0), 1);
    due("8 ends with WRITE", x.mark(2, 3), 9);
  }

  private static void promises9To11() {
    CardIndex x = desk(PLAIN, 1, DEQUE);
    x.act(0, 0, 0, 5, 0);
    x.act(0, 0, 0, 6, 0);
    x.act(0, 0, 0, 7, 0);
    x.act(0, 0, 0, 8, 0);
    due("9 no run", x.answer(0, 0), 0);
    due("10 no run", x.outcome(0, 0), NO);
    due("11 no run", x.waited(0, 0), NO);
    for (int c : new int[] {-1, 1, HIGH, LOW}) {
      due("9 clerk", x.answer(c, 0), 0);
      due("10 clerk", x.outcome(c, 0), BAD);
      due("11 clerk", x.waited(c, 0), BAD);
    }
    for (int i : new int[] {-1, 4, HIGH, LOW}) {
      due("9 act", x.answer(0, i), 0);
      due("10 act", x.outcome(0, i), BAD);
      due("11 act", x.waited(0, i), BAD);
    }
    x.run();
    told("9, 10 well", x, 0, 0, 0, 5);
    told("9, 10 it waits", x, 0, 2, 5, 0);
    told("9, 10 not begun", x, 0, 3, 6, 0);
    due("11 once", x.waited(0, 2), 1);
    due("11 never", x.waited(0, 0), 0);
    due("11 not begun", x.waited(0, 3), 0);
    due("10 bad", x.outcome(0, 4), BAD);
  }

  private static void promise12() {
    CardIndex x = desk(PLAIN, 2, QUEUE, COPIES);
    x.act(0, 0, 0, 5, 0);
    x.act(1, 1, 1, 5, 0);
    due("12 no run", x.mark(0, 0), NO);
    for (int i : new int[] {-1, LOW}) due("12 i", x.mark(i, 0), BAD);
    for (int w : new int[] {-1, 4, HIGH, LOW}) due("12 what", x.mark(0, w), BAD);
    x.baton(1, 1);
    x.run();
    int[][] marks = {{0, 0, 0, 0}, {1, 0, 0, 1}, {1, 0, 1, 1}, {0, 0, 1, 4}};
    for (int i = 0; i < 4; i++) for (int w = 0; w < 4; w++) due("12 mark " + i, x.mark(i, w), marks[i][w]);
    due("12 not so many", x.mark(4, 0), NONE);
    due("12 far more", x.mark(HIGH, 3), NONE);
    due("12 count", x.count(4), 4);
  }

  private static void promise13() {
    CardIndex x = desk(PLAIN, 3, DEQUE, QUEUE);
    for (int c = 0; c < 2; c++) x.act(c, 0, 2, 0, 0);
    x.act(2, 1, 1, 0, 0);
    for (int what = 3; what < 6; what++) due("13 no run", x.count(what), NO);
    for (int what : new int[] {-1, 6, HIGH, LOW}) due("13 what", x.count(what), BAD);
    x.run();
    int[] due = {2, 3, 3, 2 + 2 + 4, 4, 2};
    for (int what = 0; what < 6; what++) due("13 count " + what, x.count(what), due[what]);
  }

  private static void promises14To16() {
    CardIndex x = desk(PLAIN, 1, COUNTER, QUEUE);
    x.act(0, 1, 0, 5, 0);
    due("14 no run", x.size(0), NO);
    due("15 no run", x.card(0, 0, 0), NO);
    x.run();
    for (int t : new int[] {-1, 2, HIGH, LOW}) {
      due("14 tray", x.size(t), BAD);
      due("15 tray", x.card(t, 0, 0), BAD);
    }
    for (int i : new int[] {-1, LOW}) due("15 i", x.card(1, i, 0), BAD);
    for (int w : new int[] {-1, 2, HIGH, LOW}) due("15 what", x.card(1, 0, w), BAD);
    due("15 far more", x.card(1, HIGH, 0), NONE);
    cards("14, 15 counter", x, 0, 0, 0, 1, 0, 2, 0, 3, 0);
    due("16 last", x.asked(), 0);
    cards("14, 15 queue", x, 1, 0, 5);
    due("16 refused asks nothing", x.asked(), 5);
    x.clear();
    due("16 behind clear()", x.asked(), 5);
  }

  private static void promise17() {
    CardIndex x = desk(PLAIN, 1, MAP, DEQUE, ONCE, QUEUE);
    int[] kinds = {0, 0, 0, 1, 2, 2};
    for (int what = 0; what < 6; what++) {
      for (int t = 0; t < 4; t++) due("17 " + what + " of " + t, x.about(t, what), t == kinds[what] ? NO : BAD);
      for (int t : new int[] {-1, 4, HIGH, LOW}) due("17 tray", x.about(t, what), BAD);
    }
    for (int what : new int[] {-1, 6, HIGH, LOW}) due("17 what", x.about(0, what), BAD);
    x.run();
    int[] empty = {0, 0, 4, 0, 0, 0};
    for (int what = 0; what < 6; what++) due("17 empty " + what, x.about(kinds[what], what), empty[what]);
    mapGrows();
    mapGrowsTwice();
  }

  private static void grown(String what, CardIndex x, int growths, int moved, int rows, int... keys) {
    x.run();
    due(what + " growths", x.about(0, 0), growths);
    due(what + " moved", x.about(0, 1), moved);
    due(what + " rows", x.about(0, 2), rows);
    due(what + " size", x.size(0), keys.length);
    for (int i = 0; i < keys.length; i++) {
      x.card(0, i, 0);
      due(what + " key " + i, x.asked(), keys[i]);
    }
    due(what + " fits", x.fits(0), 1);
  }

  /** Keys 0, 4, 8 .. are in stripe 0: row (k / 4) % n. */
  private static void mapGrows() {
    CardIndex x = desk(PLAIN, 2, MAP);
    x.act(0, 0, 0, 0, 1);
    x.act(0, 0, 0, 4, 1);
    grown("17 two", x, 0, 0, 4, 4, 0);
    x.act(0, 0, 0, 8, 1);
    grown("17 three", x, 1, 0, 5, 8, 4, 0);
    x.act(0, 0, 1, 1, 0);
    grown("17 READ of another stripe", x, 1, 0, 5, 8, 4, 0);
    x.act(0, 0, 1, 28, 0);
    grown("17 READ moves", x, 1, 3, 5, 0, 8, 4);
    x.act(0, 0, 0, 12, 1);
    x.act(0, 0, 0, 16, 1);
    grown("17 five", x, 2, 3, 7, 16, 0, 8, 12, 4);
    x.act(0, 0, 0, 20, 1);
    grown("17 half moved", x, 2, 6, 7, 12, 4, 0, 16, 20, 8);
    x.baton(33, 1);
    x.act(1, 0, 2, 0, 0);
    grown("17 OUT moves the rest", x, 2, 8, 7, 16, 4, 20, 8, 12);
    x.act(1, 0, 0, 4, 2);
    grown("17 a key keeps its card", x, 2, 8, 7, 16, 4, 20, 8, 12);
    x.act(1, 0, 0, 1, 2);
    grown("17 by stripes", x, 2, 8, 7, 16, 4, 20, 8, 12, 1);
  }

  /** Four READS ahead of four WRITES: the third one makes it grow, the fourth comes to a new row. */
  private static void mapGrowsTwice() {
    CardIndex x = desk(BARE, 4, MAP);
    for (int c = 0; c < 4; c++) x.act(c, 0, 0, 4 * c, 1);
    batons(x, 0, 0, 1, 1, 2, 2, 3, 3);
    grown("17 fourth in a new row", x, 1, 0, 5, 8, 4, 0, 12);
    x.act(0, 0, 0, 16, 1);
    x.baton(8, 1);
    x.baton(9, 1);
    for (int i = 10; i < 12; i++) x.baton(i, 2);
    for (int i = 12; i < 14; i++) x.baton(i, 3);
    // The READ moves the only old row, so that it grows no more, and the WRITE makes it grow anew.
    // Clerk 0 writes last of the four now, so that 0 came to a new row.
    grown("17 grows anew", x, 2, 3, 7, 16, 8, 0, 4, 12);
  }

  private static void promise18() {
    CardIndex x = desk(PLAIN, 5, COPIES, DEQUE);
    due("18 no run", x.fits(0), NO);
    for (int t : new int[] {-1, 2, HIGH, LOW}) due("18 tray", x.fits(t), BAD);
    for (int i = 0; i < 6; i++) {
      x.act(0, 0, 1, 0, 0);
      x.act(1, 0, 1, 0, 0);
    }
    x.act(0, 1, 2, 0, 0);
    x.run();
    due("18 twelve", x.fits(0), 1);
    due("18 an act that waits is left out", x.fits(1), 1);
    due("18 no acts, no tries", x.tries(), 0);
    x.act(2, 0, 1, 0, 0);
    x.run();
    due("18 thirteen", x.fits(0), NONE);
    checkerCounts();
    realTimeBinds();
  }

  /** Lost cards: each order answers alike, and none has the cards of the end. */
  private static void checkerCounts() {
    int[] tries = {0, 1, 4, 15, 64, 325};
    for (int clerks = 2; clerks <= 5; clerks++) {
      CardIndex x = desk(BARE, clerks, COPIES);
      for (int c = 0; c < clerks; c++) x.act(c, 0, 0, c, 7);
      for (int i = 0; i < 2 * clerks; i++) x.baton(i, i / 2);
      x.run();
      due("18 lost", x.fits(0), 0);
      due("20 all orders tried", x.tries(), tries[clerks]);
    }
    CardIndex x = desk(BARE, 5, COPIES);
    for (int i = 0; i < 2; i++) for (int c = 0; c < 5; c++) x.act(c, 0, 0, 5 * i + c, 7);
    for (int i = 0; i < 10; i++) x.baton(i, i / 2);
    for (int i = 10; i < 20; i++) x.baton(i, (i - 10) / 2);
    x.run();
    due("18 gave up", x.fits(0), GAVE_UP);
    due("20 gave up", x.tries(), 3000);
    due("19 gave up", x.order(0, 0), NONE);
    due("21 gave up", x.first(), NONE);
  }

  /** Acts that overlap may stand either way, others as they came. */
  private static void realTimeBinds() {
    CardIndex x = desk(EARLY, 2, MAP);
    x.act(0, 0, 0, 1, 5);
    x.act(1, 0, 1, 1, 0);
    batons(x, 0, 0, 0, 1, 1, 1);
    x.run();
    told("18 the GET behind the GIVE", x, 1, 0, 1, 0);
    due("18 it stands first", x.order(0, 0), 8);
    due("18 PUT, GET; GET, PUT", x.tries(), 4);
    // 1 writes a copy that has not the other's card; 0 sees that it is lost.
    x = desk(BARE, 2, COPIES);
    x.act(0, 0, 0, 1, 5);
    x.act(1, 0, 0, 2, 6);
    x.act(0, 0, 1, 1, 0);
    batons(x, 0, 0, 1, 1, 0, 0, 1, 1);
    x.run();
    told("18 the GET of the lost one", x, 0, 1, 1, 0);
    due("18 GET may not stand first", x.fits(0), 0);
    due("18 what is forbidden is a try too", x.tries(), 9);
    x = desk(BARE, 3, COUNTER);
    x.act(0, 0, 0, 1, 0);
    x.act(1, 0, 1, 0, 0);
    x.act(2, 0, 0, 1, 0);
    x.run();
    told("18 SUM sees one", x, 1, 0, 0, 1);
    due("18 in the order of the steps", x.order(0, 1), 8);
    due("18 one try a place", x.tries(), 3);
  }

  /** Ends that no order has: the answers alone would fit. */
  private static void checkerOfEachKind() {
    CardIndex x = desk(BARE, 5, COUNTER);
    x.act(0, 0, 0, 1, 0);
    x.act(4, 0, 0, 1, 0);
    batons(x, 0, 0, 4, 4);
    x.run();
    told("18 both note 0", x, 4, 0, 0, 1);
    due("18 counter", x.fits(0), 0);
    x = desk(BARE, 2, DEQUE);
    x.act(0, 0, 0, 5, 0);
    x.act(0, 0, 2, 0, 0);
    x.act(1, 0, 3, 0, 0);
    batons(x, 0, 0, 0, 0, 0, 0, 1, 1);
    x.run();
    told("18 HEAD and TAIL of one card", x, 1, 0, 0, 5);
    due("18 deque", x.fits(0), 0);
    x = desk(BARE, 2, DEQUE);
    x.act(0, 0, 4, 0, 0);
    x.act(1, 0, 0, 5, 0);
    batons(x, 0, 0, 1, 1);
    x.run();
    told("18 LAST looked ahead of CLOSE", x, 1, 0, 0, 5);
    due("18 LAST stands first", x.order(0, 0), 8);
    due("18 closed alike", x.fits(0), 1);
    x = desk(BARE, 2, MAP);
    x.act(0, 0, 2, 1, 0);
    x.act(1, 0, 0, 1, 5);
    batons(x, 0, 0, 1, 1, 1, 1);
    x.run();
    told("18 OUT noted none", x, 0, 0, 1, 0);
    due("18 the card is gone", x.size(0), 0);
    due("18 map", x.fits(0), 0);
    x.act(1, 0, 1, 1, 0);
    x.run();
    due("18 map, and the GET", x.fits(0), 0);
  }

  private static void promise19() {
    CardIndex x = desk(PLAIN, 2, QUEUE);
    x.act(0, 0, 0, 5, 0);
    x.act(1, 0, 1, 0, 0);
    x.act(1, 0, 1, 0, 0);
    due("19 no run", x.order(0, 0), NO);
    batons(x, 0, 0, 1, 1, 0, 0);
    x.run();
    for (int t : new int[] {-1, 1, HIGH, LOW}) due("19 tray", x.order(t, 0), BAD);
    due("19 first", x.order(0, 0), 8);
    due("19 second", x.order(0, 1), 0);
    due("19 third", x.order(0, 2), 9);
    for (int i : new int[] {3, -1, HIGH, LOW}) due("19 not so many", x.order(0, i), NONE);
  }

  private static void promises20And21() {
    CardIndex x = desk(BARE, 3, COPIES, COUNTER, MAP, COPIES);
    due("21 no run", x.first(), NO);
    x.act(0, 0, 1, 0, 0);
    x.act(0, 2, 3, 5, 1);
    x.act(1, 2, 3, 5, 1);
    batons(x, 0, 0, 0, 1, 1);
    x.run();
    due("21 the map", x.first(), 2);
    due("20 of the map", x.tries(), 4);
    due("20 fits", x.fits(0), 1);
    due("20 of fits", x.tries(), 1);
    x.order(2, 0);
    due("20 of order", x.tries(), 4);
    x.fits(1);
    due("20 of a tray without acts", x.tries(), 0);
    batons(x, 0, 0, 0, 0, 0);
    x.fits(0);
    x.run();
    due("20 stays", x.tries(), 0);
    due("21 none", x.first(), NONE);
    due("20 of the last tray", x.tries(), 0);
    for (int i = 0; i < 7; i++) {
      x.act(1, 3, 1, 0, 0);
      x.act(2, 3, 1, 0, 0);
    }
    x.run();
    x.fits(2);
    due("20 two", x.tries(), 2);
    due("21 none, the last tray has more acts", x.first(), NONE);
    due("20 of the last tray that was tried", x.tries(), 2);
    x.fits(0);
    due("18 fourteen acts", x.fits(3), NONE);
    due("20 where it did not try", x.tries(), 1);
    x.explore(3);
    due("20 behind explore", x.tries(), 1);
    x.clear();
    due("20 behind clear", x.tries(), 1);
  }

  private static void promise22() {
    CardIndex x = desk(PLAIN, 2, COPIES);
    for (int n : new int[] {-1, 0, 61, HIGH, LOW}) due("22 most", x.explore(n), BAD);
    due("22 no acts", x.explore(60), 1);
    for (int i = 0; i < 2; i++) for (int c = 0; c < 2; c++) x.act(c, 0, 1, 0, 0);
    due("22 all", x.explore(60), 6);
    due("23 no more", x.explored(0), 1);
    due("22 just all", x.explore(6), 6);
    due("23 no more either", x.explored(0), 1);
    due("22 one less", x.explore(5), 5);
    due("23 more", x.explored(0), 0);
    due("22 as if run() was called", x.count(3), 4);
    x.baton(0, 1);
    due("22 the baton does not matter", x.explore(60), 6);
    due("22 the run behind has the baton", x.mark(0, 0), 1);
    exploringIsFull();
    latestChoiceFirst();
  }

  private static void exploringIsFull() {
    CardIndex x = desk(PLAIN, 3, COPIES);
    for (int i = 0; i < 3; i++) for (int c = 0; c < 3; c++) x.act(c, 0, 1, 0, 0);
    for (int i = 0; i < 16; i++) due("22 sixty", x.explore(60), 60);
    x.clear();
    x.baton(0, 0);
    due("22 ahead of clear() too", x.explore(41), FULL);
    due("22 no run by a refused one", x.digest(), 0);
    due("22 bad ahead of full", x.explore(61), BAD);
    due("22 what is left", x.explore(40), 1);
    due("22 what is left then", x.explore(40), FULL);
    due("22 just what is left", x.explore(39), 1);
    due("22 explored stays", x.explored(0), 1);
  }

  /**
   * Of two ADDS on a BARE map, as the row of who steps: 000 and four 1s with a 0 among them (5 RUNS),
   * then 0010 and three 1s with a 0 among them (4): in these the WRITE of 0, its third STEP, is ahead
   * of the READ of 1, its second one. In 00110011, the tenth, it is not.
   */
  private static void latestChoiceFirst() {
    CardIndex x = desk(BARE, 2, MAP);
    x.act(0, 0, 3, 0, 1);
    x.act(1, 0, 3, 0, 1);
    for (int most = 1; most <= 9; most++) {
      due("22 so many", x.explore(most), most);
      due("23 there are more", x.explored(0), 0);
      due("23 they fit", x.explored(2), 0);
      due("23 they answer alike", x.explored(4), 1);
    }
    due("22 ten", x.explore(10), 10);
    due("23 the tenth is told 0", x.explored(2), 1);
    due("23 the tenth answers otherwise", x.explored(4), 2);
    due("22 sixty of seventy", x.explore(60), 60);
    due("23 seventy are more", x.explored(0), 0);
  }

  private static void promise23() {
    CardIndex x = desk(PLAIN, 2, DEQUE);
    for (int w : new int[] {-1, 5, HIGH, LOW}) due("23 what", x.explored(w), BAD);
    x.act(0, 0, 2, 0, 0);
    x.act(1, 0, 0, 5, 0);
    x.act(1, 0, 3, 0, 0);
    // HEAD first: it waits, is woken by LAST, and then HEAD or TAIL has the card.
    int runs = x.explore(60);
    due("23 no more", x.explored(0), 1);
    due("23 one of them waits for ever, each time", x.explored(1), runs);
    due("23 each fits", x.explored(2), 0);
    due("23 none given up", x.explored(3), 0);
    due("23 who had it", x.explored(4), 2);
    misfitsAndOpenOnes();
  }

  private static void misfitsAndOpenOnes() {
    // Thirteen acts on one tray are NONE in each run.
    CardIndex x = desk(BARE, 2, COPIES, MAP);
    for (int i = 0; i < 7; i++) x.act(0, 0, 1, 0, 0);
    for (int i = 0; i < 6; i++) x.act(1, 0, 1, 0, 0);
    due("23 some", x.explore(7), 7);
    due("23 no zero", x.explored(2), 0);
    due("23 NONE in each", x.explored(3), 7);
    due("23 all alike", x.explored(4), 1);
    // Another tray told 0 takes the run from (3) to (2).
    x.act(0, 1, 3, 0, 1);
    x.act(1, 1, 3, 0, 1);
    int runs = x.explore(60);
    due("23 a zero or a NONE in each", x.explored(2) + x.explored(3), runs);
    x.clear();
    due("23 stays behind clear()", x.explored(2) + x.explored(3), runs);
    x.clear();
    x.explore(1);
    for (int w = 0; w < 5; w++) due("23 latest " + w, x.explored(w), w == 0 || w == 4 ? 1 : 0);
  }

  private static void promise24() {
    CardIndex x = desk(PLAIN, 1, DEQUE, COUNTER);
    x.act(0, 0, 0, -5, 0);
    x.act(0, 1, 0, 3, 0);
    x.act(0, 0, 0, 6, 0);
    x.act(0, 0, 0, 7, 0);
    due("24 no run", x.digest(), 0);
    x.run();
    long h = 7;
    int[] all = {
      0, -5, 0, 0, 3, 0, 0, 6, 0, 5, 0, 1,
      2, 0, -5, 1, 6, 4, 0, 3, 1, 0, 2, 0, 3, 0};
    for (int v : all) h = 31 * h + v;
    due("24 digest", x.digest(), h);
    CardIndex empty = new CardIndex();
    empty.run();
    due("24 of nothing", empty.digest(), 7);
  }

  private static void promise25() {
    CardIndex x = desk(PLAIN, 2, DEQUE, ONCE);
    x.act(0, 0, 2, 0, 0);
    x.act(1, 1, 0, 4, 0);
    x.patience(0, 0, 1);
    x.throwing(1, 4, 1);
    x.baton(0, 1);
    x.run();
    told("25 before", x, 1, 0, 3, 0);
    due("25 clear", x.clear(), 2);
    due("25 no run", x.count(3), NO);
    for (int i = 0; i < 3; i++) due("25 count", x.count(i), 0);
    due("25 first", x.first(), NO);
    due("25 twice", x.clear(), 0);
    due("25 tray again", x.tray(DEQUE, 1, 0), 0);
    due("25 once again", x.tray(ONCE, 1, 0), 1);
    for (int c = 0; c < 2; c++) due("25 clerk again", x.clerk(), c);
    due("25 act again", x.act(0, 0, 2, 0, 0), 0);
    x.act(1, 1, 0, 4, 0);
    due("25 no patience left", x.run(), 1);
    told("25 no throwing left", x, 1, 0, 0, 2000);
    due("25 no baton left", x.mark(0, 0), 0);
  }

  private static void refusalsChangeNothing() {
    CardIndex x = desk(PLAIN, 5, MAP, MAP, MAP, MAP, MAP, ONCE);
    for (int i = 0; i < 8; i++) x.act(0, 0, 0, i, i);
    x.run();
    long digest = x.digest();
    x.tray(MAP, 0, 0);
    x.tray(MAP, 0, 3);
    x.clerk();
    x.act(0, 0, 0, 0, 0);
    x.act(1, 0, 0, 32, 0);
    x.baton(600, 0);
    x.patience(0, 8, 1);
    x.throwing(0, 0, 1);
    x.explore(0);
    due("the run stands", x.digest(), digest);
    due("the run's steps", x.count(3), 32);
  }

  private static void changesEndTheRun() {
    CardIndex x = desk(PLAIN, 1, ONCE);
    x.act(0, 0, 0, 0, 0);
    for (int i = 0; i < 6; i++) {
      x.run();
      due("a run", x.count(3), i < 4 ? 8 : 8 + (i == 4 ? 0 : 3));
      switch (i) {
        case 0 -> x.tray(MAP, 0, 0);
        case 1 -> x.clerk();
        case 2 -> x.baton(0, NONE);
        case 3 -> x.patience(0, 0, 0);
        case 4 -> x.act(0, 0, 0, 0, 0);
        default -> x.throwing(0, 1, 0);
      }
      due("no run any more", x.count(3), NO);
      due("no digest", x.digest(), 0);
      due("no answer", x.answer(0, 0), 0);
    }
  }
}
