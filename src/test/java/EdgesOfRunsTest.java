/** The edges that sections 1 to 3 of the document name: of trays, of steps, of a run. */
public final class EdgesOfRunsTest extends Asking {
  public static void main(String[] args) {
    bareTakesNothing();
    earlyIsForActsThatWrite();
    earlyGivesAheadOfItsWrite();
    valuesAreInts();
    keysOfOneMonitor();
    mapNotesOneOrNone();
    mapWritesWhatWasNoted();
    queueEmptyByThen();
    queueOfForty();
    dequeFullAt();
    dequeClosedAndFull();
    dequeClosedAndEmpty();
    dequeFullByNow();
    dequeOtherCardByNow();
    dequeNotedAsClosed();
    dequeRunsRound();
    wokenByEachWrite();
    wokenOnThatTrayAlone();
    wokenAllAtOnce();
    standsAtItsTakeAgain();
    counterShares();
    counterSumOfAll();
    sumsWrap();
    copiesOfNone();
    copiesByKeys();
    onceValueAndFind();
    onceThrowsStill();
    onceTwoMakers();
    onceWakesWhatWaits();
    stripesGrowAbove();
    stripesCountTheirCards();
    stripesLoseWhileTheyGrow();
    stripesTakeWhileTheyGrow();
    allThirtyTwoKeys();
    eachRunBeginsEmpty();
    batonNamesOneWhoIsNotAble();
    stepsOfOneAct();
    patienceOfN();
    patienceThisTime();
    patienceStillWaits();
    patienceOfTwo();
    patienceChangesNothingElse();
    outcomesOfOneRun();
    longRun();
    end("EdgesOfRunsTest");
  }

  // ---- 1: "BARE: STEPS that take or give a MONITOR do nothing"

  private static void bareTakesNothing() {
    CardIndex x = desk(BARE, 2, MAP);
    x.act(0, 0, PUT, 5, 1);
    x.act(1, 0, PUT, 5, 2);
    due("BARE run", play(x, "0 1 0 1 0 1 0 1"), 0);
    mark("BARE: able though it is taken", x, 1, 1, 0, 0, 1);
    due("BARE: the steps are done all the same", x.count(3), 8);
    told("BARE", x, 0, 0, NONE_THERE, 0);
    told("BARE: read ahead of the other's write", x, 1, 0, NONE_THERE, 0);
    cards("BARE", x, 0, 5, 2);
    x = desk(BARE, 2, COUNTER);
    x.act(0, 0, SUM, 0, 0);
    x.act(1, 0, SUM, 0, 0);
    play(x, "0 0 0 0 1");
    mark("BARE: a SUM beside a SUM", x, 1, 1, 0, 0, 4);
  }

  // ---- 1: "EARLY, in acts that have a WRITE, the GIVE behind it stands ahead of it"

  /** GET and SUM have no WRITE: their READ stays ahead of their GIVE. */
  private static void earlyIsForActsThatWrite() {
    CardIndex x = desk(EARLY, 2, MAP);
    x.act(0, 0, GET, 4, 0);
    x.act(1, 0, PUT, 4, 9);
    play(x, "0 1 1 1");
    mark("EARLY GET ends with its GIVE", x, 1, 0, 0, 1, 2);
    told("EARLY GET", x, 0, 0, NONE_THERE, 0);
    x = desk(EARLY, 2, COUNTER);
    x.act(0, 0, SUM, 0, 0);
    x.act(1, 0, ADD, 3, 0);
    play(x, "00000 1 1 1");
    mark("EARLY SUM gives 0, then 1", x, 1, 1, 0, 0, 7);
    told("EARLY SUM", x, 0, 0, WELL, 0);
  }

  private static void earlyGivesAheadOfItsWrite() {
    int[][] acts = {
      {MAP, PUT}, {MAP, OUT}, {MAP, MAP_ADD}, {QUEUE, PUT}, {QUEUE, POLL}, {DEQUE, LAST}, {DEQUE, FIRST},
      {DEQUE, CLOSE}, {COUNTER, ADD}, {COPIES, PUT}, {COPIES, OUT}};
    for (int[] act : acts) {
      for (int fault = 0; fault < 3; fault++) {
        CardIndex x = desk(fault, 5, act[0]);
        // Clerks 0 and 4 have the same SHARE.
        x.act(0, 0, act[1], 4, 1);
        x.act(4, 0, act[1], 4, 1);
        play(x, "000 4");
        String what = "kind " + act[0] + ", op " + act[1] + ", fault " + fault;
        if (fault == PLAIN) mark(what + " begins behind the GIVE", x, 2, 4, 0, 0, 4);
        else mark(what + " begins behind three steps", x, 1, 4, 0, 0, 3);
        due(what + " steps", x.count(3), 8);
      }
    }
    for (int fault = 0; fault < 3; fault++) {
      CardIndex x = desk(fault, 2, ONCE);
      x.act(0, 0, MAKE, 4, 0);
      x.act(1, 0, MAKE, 5, 0);
      play(x, "0000000 1");
      if (fault == PLAIN) mark("ONCE begins behind the second GIVE", x, 2, 1, 0, 0, 8);
      else mark("ONCE begins behind seven steps, fault " + fault, x, 1, 1, 0, 0, 7);
      play(x, "000 11 0000");
      // No WRITE is ahead of the first GIVE, so that it stays where it is.
      mark("ONCE begins behind the first GIVE, fault " + fault, x, 1, 1, 0, 0, fault == BARE ? 3 : 4);
    }
  }

  // ---- 1: "KEYS are 0 .. 31, VALUES ints"

  private static void valuesAreInts() {
    for (int v : new int[] {LOW, -1, 0, 1, HIGH}) {
      for (int key : new int[] {0, 31}) {
        CardIndex x = desk(PLAIN, 1, MAP, QUEUE, DEQUE, COUNTER, COPIES);
        x.act(0, 0, PUT, key, v);
        x.act(0, 0, GET, key, 0);
        x.act(0, 1, PUT, v, 0);
        x.act(0, 2, FIRST, v, 0);
        x.act(0, 3, ADD, v, 0);
        x.act(0, 4, PUT, key, v);
        x.act(0, 4, GET, key, 0);
        x.act(0, 1, POLL, 0, 0);
        due("values run", x.run(), 0);
        told("MAP PUT", x, 0, 0, NONE_THERE, 0);
        for (int act : new int[] {1, 2, 3, 4, 6, 7}) told("VALUE of act " + act, x, 0, act, WELL, v);
        cards("MAP", x, 0, key, v);
        cards("QUEUE", x, 1);
        cards("DEQUE", x, 2, 0, v);
        cards("COUNTER", x, 3, 0, v, 1, 0, 2, 0, 3, 0);
        cards("COPIES", x, 4, key, v);
        due("values fit", x.first(), NONE);
      }
    }
  }

  // ---- 2, MAP: "m being a % 4"

  private static void keysOfOneMonitor() {
    int[][] pairs = {{0, 28}, {3, 31}, {0, 4}, {1, 29}, {0, 1}, {3, 4}, {28, 31}, {31, 0}};
    for (int[] keys : pairs) {
      CardIndex x = desk(PLAIN, 2, MAP);
      x.act(0, 0, PUT, keys[0], 1);
      x.act(1, 0, PUT, keys[1], 2);
      play(x, "0 1 1 1 1");
      boolean same = keys[0] % 4 == keys[1] % 4;
      due("keys " + keys[0] + ", " + keys[1], x.mark(same ? 2 : 1, 3), same ? 4 : 1);
    }
  }

  /** A VALUE of 0 is not none; ADD answers what was written, also where none was. */
  private static void mapNotesOneOrNone() {
    CardIndex x = desk(PLAIN, 1, MAP);
    x.act(0, 0, PUT, 0, 0);
    x.act(0, 0, GET, 0, 0);
    x.act(0, 0, OUT, 0, 0);
    x.act(0, 0, OUT, 0, 0);
    x.act(0, 0, MAP_ADD, 0, 0);
    x.act(0, 0, PUT, 0, 3);
    x.act(0, 0, GET, 31, 0);
    x.act(0, 0, OUT, 31, 0);
    due("MAP run", x.run(), 0);
    int[] outcomes = {NONE_THERE, WELL, WELL, NONE_THERE, WELL, WELL, NONE_THERE, NONE_THERE};
    for (int i = 0; i < 8; i++) told("MAP act " + i, x, 0, i, outcomes[i], 0);
    cards("MAP", x, 0, 0, 3);
    due("MAP fits", x.fits(0), 1);
  }

  /** "ADD: it has what was noted (0 for none) and b": also if it was taken out in between. */
  private static void mapWritesWhatWasNoted() {
    CardIndex x = desk(BARE, 2, MAP);
    x.act(0, 0, PUT, 1, 5);
    x.act(0, 0, MAP_ADD, 1, 1);
    x.act(1, 0, OUT, 1, 0);
    play(x, "0000 00 1111 00");
    told("ADD on what was noted", x, 0, 1, WELL, 6);
    told("OUT in between", x, 1, 0, WELL, 5);
    cards("ADD puts it there again", x, 0, 1, 6);
    due("no order", x.fits(0), 0);
    x = desk(BARE, 2, MAP);
    x.act(0, 0, MAP_ADD, 1, 1);
    x.act(1, 0, PUT, 1, 5);
    play(x, "00 1111 00");
    told("ADD noted none", x, 0, 0, WELL, 1);
    cards("ADD on none", x, 0, 1, 1);
  }

  // ---- 2, QUEUE: "POLL .. takes out what is the first one then (nothing, if none was noted, or none is there)"

  private static void queueEmptyByThen() {
    CardIndex x = desk(BARE, 2, QUEUE);
    x.act(0, 0, PUT, 5, 0);
    x.act(0, 0, PUT, 6, 0);
    x.act(0, 0, POLL, 0, 0);
    x.act(1, 0, POLL, 0, 0);
    play(x, "0000 0000 00 1111 00");
    told("POLL noted 5", x, 0, 2, WELL, 5);
    told("POLL in between", x, 1, 0, WELL, 5);
    cards("6 was the first one then", x, 0);
    x = desk(BARE, 2, QUEUE);
    x.act(0, 0, PUT, 5, 0);
    x.act(0, 0, POLL, 0, 0);
    x.act(1, 0, POLL, 0, 0);
    x.act(1, 0, PUT, 7, 0);
    play(x, "0000 00 1111 00 1111");
    told("POLL, none there by then", x, 0, 1, WELL, 5);
    cards("what comes later stays", x, 0, 0, 7);
    x = desk(BARE, 2, QUEUE);
    x.act(0, 0, POLL, 0, 0);
    x.act(1, 0, PUT, 0, 0);
    play(x, "00 1111 00");
    told("POLL noted none", x, 0, 0, NONE_THERE, 0);
    told("PUT of 0", x, 1, 0, WELL, 0);
    cards("nothing is taken out", x, 0, 0, 0);
    // PUT has MONITOR 1, POLL 0.
    x = desk(PLAIN, 3, QUEUE);
    x.act(0, 0, POLL, 0, 0);
    x.act(1, 0, PUT, 1, 0);
    x.act(2, 0, PUT, 1, 0);
    play(x, "0 1 2");
    mark("PUT beside POLL", x, 1, 1, 0, 0, 1);
    mark("PUT not beside PUT", x, 2, 0, 0, 1, 4);
  }

  private static void queueOfForty() {
    CardIndex x = desk(PLAIN, 5, QUEUE);
    for (int c = 0; c < 5; c++) for (int i = 0; i < 8; i++) x.act(c, 0, PUT, 100 * c + i, 0);
    due("forty run", x.run(), 0);
    due("forty", x.size(0), 40);
    for (int i = 0; i < 40; i++) {
      x.card(0, i, 1);
      due("card " + i + " of forty", x.asked(), 100 * (i / 8) + i % 8);
    }
    x.card(0, 39, 0);
    due("its place is its KEY", x.asked(), 39);
    due("no card 40", x.card(0, 40, 0), NONE);
    due("forty steps of four", x.count(3), 160);
  }

  // ---- 2, DEQUE: "if it is full the ACT WAITS"

  private static void dequeFullAt() {
    for (int a = 1; a <= 8; a++) {
      for (int op : new int[] {LAST, FIRST}) {
        CardIndex x = deque(a, PLAIN, 2);
        for (int i = 0; i < a; i++) x.act(0, 0, op, i, 0);
        due("just full", x.run(), 0);
        due("just full size", x.size(0), a);
        due("just full: the last one did not wait", x.waited(0, a - 1), 0);
        x.act(1, 0, op, 9, 0);
        due("one more", x.run(), 1);
        told("one more waits", x, 1, 0, WAITS, 0);
        due("one more waits once", x.waited(1, 0), 1);
        due("one more: size", x.size(0), a);
        due("one that waits", x.count(5), 1);
      }
    }
  }

  /** CLOSED is looked at ahead of full. */
  private static void dequeClosedAndFull() {
    CardIndex x = deque(1, PLAIN, 1);
    x.act(0, 0, LAST, 5, 0);
    x.act(0, 0, CLOSE, 99, 99);
    x.act(0, 0, LAST, 6, 0);
    x.act(0, 0, FIRST, 7, 0);
    x.act(0, 0, CLOSE, 0, 0);
    due("closed and full", x.run(), 0);
    told("LAST", x, 0, 2, CLOSED, 0);
    told("FIRST", x, 0, 3, CLOSED, 0);
    due("LAST does not wait", x.waited(0, 2), 0);
    told("CLOSE of a full one", x, 0, 1, WELL, 0);
    told("CLOSE of a closed one", x, 0, 4, WELL, 0);
    cards("what was there stays", x, 0, 0, 5);
    due("fits", x.fits(0), 1);
  }

  private static void dequeClosedAndEmpty() {
    CardIndex x = deque(8, PLAIN, 1);
    x.act(0, 0, CLOSE, 0, 0);
    for (int op = LAST; op <= TAIL; op++) x.act(0, 0, op, 5, 0);
    due("closed and empty", x.run(), 0);
    for (int op = LAST; op <= TAIL; op++) told("closed and empty, op " + op, x, 0, 1 + op, CLOSED, 0);
    cards("closed and empty", x, 0);
    due("closed and empty fits", x.fits(0), 1);
    x = deque(8, PLAIN, 1);
    x.act(0, 0, LAST, 0, 0);
    x.act(0, 0, CLOSE, 0, 0);
    x.act(0, 0, TAIL, 0, 0);
    x.act(0, 0, TAIL, 0, 0);
    due("closed, with one card", x.run(), 0);
    told("a card of 0 is one", x, 0, 2, WELL, 0);
    told("and then none", x, 0, 3, CLOSED, 0);
  }

  /** "LAST, FIRST put a there (also if it is full by now)"; what is above full is full. */
  private static void dequeFullByNow() {
    for (int op : new int[] {LAST, FIRST}) {
      CardIndex x = deque(1, EARLY, 4);
      x.act(0, 0, op, 5, 0);
      x.act(1, 0, op, 6, 0);
      x.act(2, 0, op, 7, 0);
      x.act(3, 0, HEAD, 0, 0);
      due("full by now", play(x, "000 111 0 1 22 3333 22"), 1);
      told("put though it is full", x, 1, 0, WELL, 6);
      due("two are full, and one is", x.waited(2, 0), 2);
      told("HEAD", x, 3, 0, WELL, op == LAST ? 5 : 6);
      cards("one is left", x, 0, 0, op == LAST ? 6 : 5);
    }
  }

  /** "HEAD, TAIL take out what is the first (last) one then, if one is there". */
  private static void dequeOtherCardByNow() {
    for (int end = HEAD; end <= TAIL; end++) {
      CardIndex x = deque(3, BARE, 2);
      x.act(0, 0, end == HEAD ? FIRST : LAST, 5, 0);
      x.act(0, 0, end, 0, 0);
      x.act(1, 0, end == HEAD ? FIRST : LAST, 4, 0);
      play(x, "0000 00 1111 00");
      told("what was noted", x, 0, 1, WELL, 5);
      cards("the other one was taken", x, 0, 0, 5);
      due("4 should be left: no order", x.fits(0), 0);
    }
    CardIndex x = deque(3, BARE, 2);
    x.act(0, 0, LAST, 5, 0);
    x.act(0, 0, HEAD, 0, 0);
    x.act(1, 0, TAIL, 0, 0);
    x.act(1, 0, LAST, 6, 0);
    play(x, "0000 00 1111 00 1111");
    told("HEAD", x, 0, 1, WELL, 5);
    told("TAIL", x, 1, 0, WELL, 5);
    cards("none was there, and 6 stays", x, 0, 0, 6);
  }

  /** "what was noted as CLOSED does nothing": here a card came behind the LOOK. */
  private static void dequeNotedAsClosed() {
    for (int end = HEAD; end <= TAIL; end++) {
      CardIndex x = deque(2, BARE, 3);
      x.act(0, 0, CLOSE, 0, 0);
      x.act(1, 0, LAST, 5, 0);
      x.act(2, 0, end, 0, 0);
      due("noted as CLOSED", play(x, "11 0000 22 11 22"), 0);
      told("LAST looked ahead of CLOSE", x, 1, 0, WELL, 5);
      told("noted as CLOSED", x, 2, 0, CLOSED, 0);
      cards("the card stays", x, 0, 0, 5);
      due("closed", x.about(0, 3), 1);
    }
  }

  /** FIRST goes below the place where the first card came to, TAIL follows. */
  private static void dequeRunsRound() {
    CardIndex x = deque(8, PLAIN, 5);
    for (int i = 0; i < 8; i++) x.act(0, 0, FIRST, i, 0);
    for (int c = 1; c < 5; c++) {
      for (int i = 0; i < 4; i++) {
        x.act(c, 0, c % 2 == 1 ? TAIL : HEAD, 0, 0);
        x.act(c, 0, c % 2 == 1 ? FIRST : LAST, 10 * c + i, 0);
      }
    }
    due("round", x.run(), 0);
    due("round: steps", x.count(3), 160);
    // 7 .. 0; four from the tail to the head; four from the head to the tail; and both again.
    for (int i = 0; i < 4; i++) {
      told("round, TAIL", x, 1, 2 * i, WELL, i);
      told("round, HEAD", x, 2, 2 * i, WELL, 13 - i);
      told("round, TAIL again", x, 3, 2 * i, WELL, 20 + 3 - i);
      told("round, HEAD again", x, 4, 2 * i, WELL, 33 - i);
    }
    cards("round", x, 0, 0, 7, 1, 6, 2, 5, 3, 4, 4, 40, 5, 41, 6, 42, 7, 43);
  }

  // ---- 2: "ACTS that WAIT .. are WOKEN: by each WRITE that was done on that TRAY"

  /** Also by one that took nothing out. */
  private static void wokenByEachWrite() {
    CardIndex x = deque(2, BARE, 3);
    x.act(0, 0, LAST, 5, 0);
    x.act(0, 0, HEAD, 0, 0);
    x.act(1, 0, TAIL, 0, 0);
    x.act(2, 0, HEAD, 0, 0);
    due("woken by a WRITE of nothing", play(x, "0000 00 11 00 22 1 22 1"), 1);
    told("the first took it", x, 0, 1, WELL, 5);
    told("the other noted it", x, 1, 0, WELL, 5);
    due("woken, and waits again", x.waited(2, 0), 2);
    told("waits", x, 2, 0, WAITS, 0);
    due("its steps", x.count(3), 4 + 4 + 4 + 4);
  }

  private static void wokenOnThatTrayAlone() {
    CardIndex x = desk(PLAIN, 2, DEQUE, DEQUE, MAP);
    x.act(0, 0, HEAD, 0, 0);
    x.act(1, 1, LAST, 5, 0);
    x.act(1, 2, PUT, 0, 1);
    due("not woken", x.run(), 1);
    due("not woken: waited", x.waited(0, 0), 1);
    due("not woken: steps", x.count(3), 2 + 4 + 4);
    x.act(1, 0, LAST, 5, 0);
    due("woken", x.run(), 0);
    due("woken: steps", x.count(3), 2 + 4 + 4 + 4 + 4);
  }

  private static void wokenAllAtOnce() {
    CardIndex x = deque(8, PLAIN, 5);
    for (int c = 0; c < 4; c++) x.act(c, 0, HEAD, 0, 0);
    due("all wait", x.run(), 1);
    due("all wait: how many", x.count(5), 4);
    due("all wait: steps", x.count(3), 8);
    x.act(4, 0, LAST, 5, 0);
    due("one has it", x.run(), 1);
    told("the least one has it", x, 0, 0, WELL, 5);
    due("it waited", x.waited(0, 0), 1);
    for (int c = 1; c < 4; c++) due("the others wait again", x.waited(c, 0), 2);
    due("three wait", x.count(5), 3);
    due("steps", x.count(3), 8 + 4 + 4 + 3 * 2);
    x.act(4, 0, CLOSE, 5, 0);
    due("CLOSE wakes the rest", x.run(), 0);
    for (int c = 1; c < 4; c++) told("closed", x, c, 0, CLOSED, 0);
    due("none waits", x.count(5), 0);
  }

  /** It is able again when its MONITOR is given: PLAIN behind WRITE and GIVE, EARLY and BARE behind WRITE. */
  private static void standsAtItsTakeAgain() {
    for (int fault = 0; fault < 3; fault++) {
      CardIndex x = deque(2, fault, 2);
      x.act(0, 0, HEAD, 0, 0);
      x.act(1, 0, LAST, 5, 0);
      String batons = fault == EARLY ? "00 1111 0 0000" : "00 111 0 0000";
      due("stands at TAKE", play(x, batons), 0);
      mark("the MONITOR was given when it waited", x, 1, 1, 0, 0, 2);
      if (fault == BARE) mark("BARE: HEAD ends first", x, 2, 0, 0, 1, 8);
      else mark("LAST ends first", x, 2, 1, 0, 1, 5);
      due("steps", x.count(3), 10);
      due("begins but once", x.count(4), 4);
      told("HEAD", x, 0, 0, WELL, 5);
    }
  }

  // ---- 2, COUNTER: "four SHARES, m being the CLERK % 4"

  private static void counterShares() {
    CardIndex x = desk(PLAIN, 5, COUNTER);
    for (int c = 0; c < 5; c++) x.act(c, 0, ADD, 1 << c, 0);
    due("shares run", play(x, "0 1 2 3 4"), 0);
    for (int c = 0; c < 4; c++) mark("each has a MONITOR", x, c, c, 0, 0, c);
    // At STEP 4 clerk 4 is not able: 0 has its MONITOR up to STEP 6.
    mark("0 ends first", x, 4, 0, 0, 1, 6);
    cards("shares", x, 0, 0, 17, 1, 2, 2, 4, 3, 8);
    told("clerk 4 has 0's share", x, 4, 0, WELL, 17);
    due("shares fit", x.fits(0), 1);
    play(x, "0000 4 1");
    mark("clerk 4 behind 0", x, 2, 4, 0, 0, 4);
  }

  private static void counterSumOfAll() {
    CardIndex x = desk(PLAIN, 5, COUNTER);
    x.act(1, 0, SUM, 99, 99);
    x.act(4, 0, ADD, 7, 0);
    due("SUM of none", play(x, "11111 4 4"), 0);
    told("SUM of none", x, 1, 0, WELL, 0);
    // At STEP 5 SUM gives MONITOR 0 itself, as 4 is not able.
    mark("4 begins behind GIVE 0", x, 1, 4, 0, 0, 6);
    play(x, "11111 4 1111");
    mark("SUM ends first", x, 1, 1, 0, 1, 8);
    play(x, "4 1 1");
    mark("SUM does not begin beside it", x, 1, 4, 0, 1, 3);
    told("SUM of 7", x, 1, 0, WELL, 7);
    due("SUM does not WAIT", x.waited(1, 0), 0);
    due("SUM and ADD", x.count(3), 13);
    x = desk(PLAIN, 5, COUNTER);
    for (int c = 0; c < 4; c++) x.act(c, 0, ADD, 1 << 4 * c, 0);
    x.act(4, 0, SUM, 0, 0);
    x.run();
    told("SUM of all four", x, 4, 0, WELL, 0x1111);
  }

  // ---- 2: "Sums wrap"

  private static void sumsWrap() {
    CardIndex x = desk(PLAIN, 2, COUNTER, MAP, COPIES);
    x.act(0, 0, ADD, HIGH, 0);
    x.act(1, 0, ADD, 1, 0);
    x.act(1, 0, SUM, 0, 0);
    x.act(1, 0, ADD, LOW, 0);
    x.act(1, 0, ADD, LOW, 0);
    due("SHARES", x.run(), 0);
    told("SUM wraps", x, 1, 1, WELL, LOW);
    told("ADD to LOW + 1", x, 1, 2, WELL, LOW + 1);
    told("ADD wraps", x, 1, 3, WELL, 1);
    cards("SHARES", x, 0, 0, HIGH, 1, 1, 2, 0, 3, 0);
    due("SHARES fit", x.fits(0), 1);
    x = desk(PLAIN, 2, MAP, COPIES);
    x.act(0, 0, MAP_ADD, 3, HIGH);
    x.act(0, 0, MAP_ADD, 3, 1);
    x.act(0, 0, MAP_ADD, 3, -1);
    x.act(0, 0, MAP_ADD, 3, LOW);
    x.act(1, 1, PUT, 31, HIGH);
    x.act(1, 1, COPIES_ALL, 0, 0);
    x.act(1, 1, PUT, 0, LOW);
    x.act(1, 1, COPIES_ALL, 0, 0);
    due("MAP and COPIES", x.run(), 0);
    told("ADD", x, 0, 0, WELL, HIGH);
    told("ADD above", x, 0, 1, WELL, LOW);
    told("ADD below", x, 0, 2, WELL, HIGH);
    told("ADD LOW", x, 0, 3, WELL, -1);
    told("ALL wraps", x, 1, 1, WELL, -32);
    told("ALL wraps again", x, 1, 3, WELL, LOW - 32);
    due("MAP and COPIES fit", x.first(), NONE);
  }

  // ---- 2, COPIES

  private static void copiesOfNone() {
    CardIndex x = desk(PLAIN, 1, COPIES);
    x.act(0, 0, COPIES_ALL, 0, 0);
    x.act(0, 0, GET, 0, 0);
    x.act(0, 0, OUT, 31, 0);
    x.act(0, 0, PUT, 31, 0);
    x.act(0, 0, GET, 31, 0);
    x.act(0, 0, COPIES_ALL, 0, 0);
    x.act(0, 0, PUT, 31, 2);
    x.act(0, 0, OUT, 31, 0);
    due("COPIES run", x.run(), 0);
    int[] outcomes = {WELL, NONE_THERE, NONE_THERE, NONE_THERE, WELL, WELL, WELL, WELL};
    int[] answers = {0, 0, 0, 0, 0, 0, 0, 2};
    for (int i = 0; i < 8; i++) told("COPIES act " + i, x, 0, i, outcomes[i], answers[i]);
    cards("COPIES", x, 0);
    due("COPIES steps", x.count(3), 1 + 1 + 4 + 4 + 1 + 1 + 4 + 4);
    due("COPIES fit", x.fits(0), 1);
    // OUT of none writes what it noted all the same.
    x = desk(BARE, 2, COPIES);
    x.act(0, 0, OUT, 3, 0);
    x.act(1, 0, PUT, 5, 9);
    play(x, "00 1111 00");
    told("OUT of none", x, 0, 0, NONE_THERE, 0);
    cards("OUT of none: PUT is lost", x, 0);
    due("OUT of none: no order", x.fits(0), 0);
    // "the TRAY has these", with their VALUES as they were noted.
    x = desk(BARE, 2, COPIES);
    x.act(0, 0, PUT, 5, 1);
    x.act(0, 0, PUT, 6, 2);
    x.act(0, 0, OUT, 6, 0);
    x.act(0, 0, GET, 5, 0);
    x.act(1, 0, PUT, 5, 9);
    x.act(1, 0, PUT, 7, 9);
    play(x, "0000 0000 00 1111 1111 00");
    told("OUT of what was noted", x, 0, 2, WELL, 2);
    told("PUT in between", x, 1, 0, WELL, 1);
    told("the VALUE that was noted", x, 0, 3, WELL, 1);
    cards("as noted, but for 6", x, 0, 5, 1);
    x = desk(BARE, 2, COPIES);
    x.act(0, 0, PUT, 5, 1);
    x.act(0, 0, PUT, 6, 2);
    x.act(1, 0, PUT, 5, 9);
    play(x, "0000 00 1111 00");
    cards("as noted, and 6", x, 0, 5, 1, 6, 2);
  }

  private static void copiesByKeys() {
    CardIndex x = desk(PLAIN, 4, COPIES);
    for (int c = 0; c < 4; c++) for (int i = 0; i < 8; i++) x.act(c, 0, PUT, 31 - 8 * c - i, 8 * c + i);
    due("all KEYS", x.run(), 0);
    due("all KEYS size", x.size(0), 32);
    for (int key = 0; key < 32; key++) {
      x.card(0, key, 0);
      due("by KEYS", x.asked(), key);
      x.card(0, key, 1);
      due("by KEYS, VALUE", x.asked(), 31 - key);
    }
    due("no card 32", x.card(0, 32, 1), NONE);
  }

  // ---- 2, ONCE

  private static void onceValueAndFind() {
    CardIndex x = desk(PLAIN, 5, ONCE);
    for (int i = 0; i < 8; i++) x.act(4, 0, MAKE, i == 7 ? 31 : 0, 0);
    x.act(0, 0, MAKE, 31, 0);
    due("ONCE run", play(x, "4444 4444 444 444 444 444 444 444 44444444"), 0);
    told("made", x, 4, 0, WELL, 5000);
    for (int i = 1; i < 7; i++) told("found", x, 4, i, WELL, 5000);
    told("the greatest VALUE", x, 4, 7, WELL, 5007);
    told("found by another", x, 0, 0, WELL, 5007);
    due("finding has three steps", x.count(3), 8 + 6 * 3 + 8 + 3);
    due("finding is no making", x.about(0, 4), 2);
    cards("ONCE", x, 0, 0, 5000, 31, 5007);
    due("ONCE fits", x.fits(0), 1);
    x = desk(PLAIN, 4, ONCE);
    for (int c = 0; c < 4; c++) for (int i = 0; i < 8; i++) x.act(c, 0, MAKE, 8 * i + 2 * c + 1 & 31, 0);
    for (int c = 0; c < 4; c++) x.throwing(0, 2 * c + 1, 9);
    due("KEYS once more", x.run(), 0);
    // KEYS 1, 3, 5, 7 throw each time; KEYS 9 .. 31 are made once, with the acts 1 to 3.
    due("KEYS that have a VALUE", x.size(0), 12);
    due("makings", x.about(0, 4), 8 + 12);
    due("threw", x.about(0, 5), 8);
    x.card(0, 0, 0);
    due("the least KEY", x.asked(), 9);
    x.card(0, 11, 0);
    due("the greatest KEY", x.asked(), 31);
  }

  /** "MAKE: it THROWS if throwing() told so for this KEY still (once less then)". */
  private static void onceThrowsStill() {
    for (int n = 0; n <= 9; n++) {
      CardIndex x = desk(PLAIN, 2, ONCE, ONCE);
      for (int i = 0; i < 8; i++) x.act(0, 0, MAKE, 31, 0);
      for (int i = 0; i < 4; i++) x.act(1, 0, MAKE, 31, 0);
      x.act(1, 0, MAKE, 30, 0);
      x.act(1, 1, MAKE, 31, 0);
      x.throwing(0, 31, n);
      for (int again = 0; again < 2; again++) {
        due("throws run", x.run(), 0);
        for (int i = 0; i < 12; i++) {
          int value = n < 8 ? 1000 + n : 2000 + n - 8;
          told(n + " throw, making " + i, x, i / 8, i % 8, i < n ? THREW : WELL, i < n ? 0 : value);
        }
        told("another KEY", x, 1, 4, WELL, 2004);
        told("another TRAY", x, 1, 5, WELL, 2005);
        due("threw", x.about(0, 5), n);
        due("makings", x.about(0, 4), n + 2);
      }
    }
    CardIndex x = desk(PLAIN, 1, ONCE);
    for (int i = 0; i < 3; i++) x.act(0, 0, MAKE, 0, 0);
    x.throwing(0, 0, 9);
    x.throwing(0, 0, 1);
    x.run();
    told("what was told last counts", x, 0, 0, THREW, 0);
    told("and not both", x, 0, 1, WELL, 1001);
  }

  /** BARE: two look ahead of the MARK. */
  private static void onceTwoMakers() {
    CardIndex x = desk(BARE, 3, ONCE);
    x.act(0, 0, MAKE, 7, 0);
    x.act(1, 0, MAKE, 7, 0);
    x.act(2, 0, MAKE, 7, 0);
    x.throwing(0, 7, 1);
    due("two makers", play(x, "00 11 00 11 0 1111 000 222"), 0);
    told("the first MAKE threw", x, 0, 0, THREW, 0);
    told("the second did not", x, 1, 0, WELL, 2000);
    told("its VALUE stays behind the other's WRITE", x, 2, 0, WELL, 2000);
    cards("two makers", x, 0, 7, 2000);
    due("two makers fit", x.fits(0), 1);
    // Of two that MARK the first WRITE takes the MARK away, so that a third makes beside the other.
    x.throwing(0, 7, 9);
    due("three makers", play(x, "00 11 00 11 0000 2222 1111 2222"), 0);
    due("no one waited", x.waited(2, 0), 0);
    due("three makings", x.about(0, 4), 3);
    due("three threw", x.about(0, 5), 3);
    due("no VALUE", x.size(0), 0);
    due("three makers fit", x.fits(0), 1);
  }

  private static void onceWakesWhatWaits() {
    CardIndex x = desk(PLAIN, 3, ONCE, ONCE);
    x.act(0, 0, MAKE, 7, 0);
    x.act(1, 0, MAKE, 7, 0);
    x.act(2, 1, MAKE, 7, 0);
    x.throwing(0, 7, 1);
    due("THREW wakes", play(x, "0000 11 22222222 0000"), 0);
    told("THREW", x, 0, 0, THREW, 0);
    told("made then", x, 1, 0, WELL, 2000);
    due("waited, and was not woken from another TRAY", x.waited(1, 0), 1);
    due("steps", x.count(3), 8 + 8 + 2 + 8);
    told("the other TRAY", x, 2, 0, WELL, 3000);
    // A KEY that is MARKED has no VALUE yet.
    x = desk(PLAIN, 2, ONCE, DEQUE);
    x.act(0, 0, MAKE, 7, 0);
    x.act(1, 0, MAKE, 8, 0);
    due("another KEY is not MARKED", play(x, "0000 11111111"), 0);
    due("another KEY does not wait", x.waited(1, 0), 0);
  }

  // ---- 2: "If there are more than 2 n CARDS in it then, and it does not GROW, it GROWS"

  private static void stripesGrowAbove() {
    int[] growths = {0, 0, 0, 1, 1, 2, 2, 2, 2};
    int[] moved = {0, 0, 0, 0, 3, 3, 6, 8, 8};
    int[] rows = {4, 4, 4, 5, 5, 7, 7, 7, 7};
    for (int many = 0; many <= 8; many++) {
      for (int op : new int[] {PUT, MAP_ADD}) {
        CardIndex x = desk(PLAIN, 1, MAP);
        for (int i = 0; i < many; i++) x.act(0, 0, op, 4 * i + 3, i);
        due("STRIPE run", x.run(), 0);
        due(many + " cards: growths", x.about(0, 0), growths[many]);
        due(many + " cards: moved", x.about(0, 1), moved[many]);
        due(many + " cards: rows", x.about(0, 2), rows[many]);
        due(many + " cards: size", x.size(0), many);
      }
    }
    // Two in each STRIPE are not more than two; one more in each makes each grow.
    CardIndex x = desk(PLAIN, 3, MAP);
    for (int i = 0; i < 8; i++) x.act(0, 0, PUT, i, i);
    x.run();
    due("two in each", x.about(0, 0), 0);
    due("two in each: rows", x.about(0, 2), 4);
    cards("two in each", x, 0, 4, 4, 0, 0, 5, 5, 1, 1, 6, 6, 2, 2, 7, 7, 3, 3);
    for (int i = 8; i < 12; i++) x.act(1, 0, PUT, i, i);
    x.run();
    due("three in each", x.about(0, 0), 4);
    due("three in each: rows", x.about(0, 2), 8);
    due("three in each: none moved yet", x.about(0, 1), 0);
  }

  private static void stripesCountTheirCards() {
    CardIndex x = desk(PLAIN, 2, MAP);
    for (int key : new int[] {0, 4, 4, 0}) x.act(0, 0, PUT, key, 1);
    for (int key : new int[] {0, 4}) x.act(0, 0, MAP_ADD, key, 1);
    x.act(0, 0, GET, 8, 0);
    x.act(0, 0, OUT, 8, 0);
    x.run();
    due("a KEY that has a CARD keeps that", x.about(0, 0), 0);
    cards("as they came", x, 0, 4, 2, 0, 2);
    x.act(1, 0, OUT, 4, 0);
    x.act(1, 0, PUT, 8, 3);
    x.act(1, 0, PUT, 0, 5);
    x.run();
    due("one out, one in: two", x.about(0, 0), 0);
    cards("the new one is at the head", x, 0, 8, 3, 0, 5);
    x.act(1, 0, PUT, 4, 6);
    x.run();
    due("three", x.about(0, 0), 1);
    cards("out and in again: at the head", x, 0, 4, 6, 8, 3, 0, 5);
    x.act(1, 0, OUT, 4, 0);
    x.run();
    // The READ of OUT moved the ROW.
    due("moved", x.about(0, 1), 3);
    due("two rows stay", x.about(0, 2), 5);
    cards("two rows: 0 and 8 in the first", x, 0, 0, 5, 8, 3);
  }

  /**
   * Behind 0, 4, 8, 12 there are two ROWS: 0, 8 and 12, 4. With 16 at the head of the first one it
   * grows to four ROWS. OUT's own READ moves the first one: 0, 16 and 8 stand in new ROWS then.
   */
  private static void stripesLoseWhileTheyGrow() {
    int[] outs = {16, 0, 8, 4, 12};
    int[][] left = {{12, 4, 0, 8}, {12, 4, 16, 8}, {12, 4, 0, 16}, {12, 0, 16, 8}, {4, 0, 16, 8}};
    int[][] then = {{0, 4, 8, 12}, {16, 4, 8, 12}, {0, 16, 4, 12}, {0, 16, 8, 12}, {0, 16, 4, 8}};
    for (int i = 0; i < 5; i++) {
      CardIndex x = desk(PLAIN, 2, MAP);
      for (int key = 0; key <= 16; key += 4) x.act(0, 0, PUT, key, key);
      x.run();
      due("grows", x.about(0, 0), 2);
      keys("grows", x, 16, 0, 8, 12, 4);
      x.act(1, 0, OUT, outs[i], 0);
      x.run();
      String what = "OUT of " + outs[i];
      told(what, x, 1, 0, WELL, outs[i]);
      due(what + " moved", x.about(0, 1), 3 + 3);
      due(what + " rows", x.about(0, 2), 7);
      keys(what, x, left[i]);
      x.act(1, 0, GET, 28, 0);
      x.act(1, 0, GET, 28, 0);
      x.run();
      due(what + ", moved by a GET", x.about(0, 1), 3 + 3 + (i < 3 ? 2 : 1));
      due(what + ", growths", x.about(0, 0), 2);
      keys(what + ", moved by a GET", x, then[i]);
      due(what + ", fits", x.fits(0), 1);
    }
    // OUT's READ was ahead of the growing here: it takes out of an old ROW, also what it had not noted.
    for (int out = 0; out <= 16; out += 8) {
      CardIndex x = desk(BARE, 3, MAP);
      for (int key = 0; key <= 16; key += 4) x.act(0, 0, PUT, key, key);
      x.act(1, 0, OUT, out, 0);
      play(x, "0000 0000 0000 0000 11 0000 11");
      told("OUT ahead of growing", x, 1, 0, out == 16 ? NONE_THERE : WELL, out == 16 ? 0 : out);
      due("OUT ahead of growing: moved", x.about(0, 1), 3);
      keys("OUT ahead of growing", x, out == 16 ? 0 : 16, out == 16 ? 8 : out == 0 ? 8 : 0, 12, 4);
    }
  }

  /** "a new CARD comes there": to its ROW among the new ones, at its head. */
  private static void stripesTakeWhileTheyGrow() {
    // All five have read ahead of the first WRITE, so that none of them moves anything.
    CardIndex x = desk(BARE, 5, MAP);
    for (int c = 0; c < 5; c++) x.act(c, 0, PUT, 4 * c, c);
    play(x, "00 11 22 33 44 00 11 22 44 33");
    due("16, then 12", x.about(0, 0), 1);
    due("16, then 12: moved", x.about(0, 1), 0);
    due("16, then 12: rows", x.about(0, 2), 5);
    keys("16, then 12", x, 8, 4, 0, 16, 12);
    // It does not grow anew though 5 are more than 4; the next READ moves the only old ROW.
    x.act(0, 0, GET, 1, 0);
    x.run();
    keys("READ of another STRIPE", x, 8, 4, 0, 16, 12);
    x.act(0, 0, GET, 28, 0);
    x.run();
    due("READ: moved", x.about(0, 1), 3);
    keys("READ: each came to the head of its ROW", x, 0, 8, 16, 4, 12);
    due("READ: no new growing", x.about(0, 0), 1);
    x.act(0, 0, PUT, 20, 5);
    x.run();
    due("the next new CARD: grows", x.about(0, 0), 2);
    due("the next new CARD: rows", x.about(0, 2), 7);
    keys("the next new CARD", x, 0, 8, 16, 20, 4, 12);
    // From two ROWS to four: 24 and 28 have ROWS 2 and 3 of the new ones, 0 and 1 of the old ones.
    x = desk(PLAIN, 2, MAP);
    for (int key = 0; key <= 16; key += 4) x.act(0, 0, PUT, key, key);
    x.act(0, 0, PUT, 24, 0);
    x.run();
    keys("24", x, 12, 4, 0, 16, 24, 8);
    x.act(0, 0, PUT, 28, 0);
    x.run();
    due("28: moved", x.about(0, 1), 3 + 5);
    keys("28", x, 0, 16, 4, 24, 8, 28, 12);
  }

  private static void keys(String what, CardIndex x, int... keys) {
    due(what + " size", x.size(0), keys.length);
    for (int i = 0; i < keys.length; i++) {
      due(what + " card " + i, x.card(0, i, 0), 1);
      due(what + " KEY " + i, x.asked(), keys[i]);
    }
  }

  private static void allThirtyTwoKeys() {
    CardIndex x = desk(PLAIN, 4, MAP);
    for (int c = 0; c < 4; c++) for (int i = 0; i < 8; i++) x.act(c, 0, PUT, c + 4 * i, 100 * c + i);
    due("32 KEYS", x.run(), 0);
    due("32 KEYS size", x.size(0), 32);
    due("32 KEYS growths", x.about(0, 0), 8);
    due("32 KEYS moved", x.about(0, 1), 4 * (3 + 5));
    due("32 KEYS rows", x.about(0, 2), 16);
    // ROWS of four: a card comes to the head, and a moved ROW comes over from its head on.
    int[] order = {0, 4, 1, 5, 6, 2, 7, 3};
    for (int i = 0; i < 32; i++) {
      due("32 KEYS card", x.card(0, i, 0), 1);
      due("32 KEYS KEY " + i, x.asked(), 4 * order[i % 8] + i / 8);
      x.card(0, i, 1);
      due("32 KEYS VALUE " + i, x.asked(), 100 * (i / 8) + order[i % 8]);
    }
    due("no card 32", x.card(0, 32, 0), NONE);
    due("more than 12 acts", x.fits(0), NONE);
  }

  // ---- 3: "A RUN: all TRAYS empty, not CLOSED, nothing MARKED; no MONITOR is anyone's"

  private static void eachRunBeginsEmpty() {
    CardIndex x = desk(PLAIN, 5, MAP, QUEUE, DEQUE, COUNTER, COPIES, ONCE);
    for (int i = 0; i < 5; i++) x.act(0, 0, PUT, 4 * i, i);
    x.act(1, 1, PUT, 5, 0);
    x.act(1, 3, ADD, 5, 0);
    x.act(1, 4, PUT, 5, 5);
    x.act(2, 5, MAKE, 5, 0);
    x.act(2, 5, MAKE, 5, 0);
    x.act(3, 2, LAST, 5, 0);
    x.act(3, 2, CLOSE, 0, 0);
    x.act(3, 2, LAST, 6, 0);
    x.act(4, 2, HEAD, 0, 0);
    x.throwing(5, 5, 1);
    due("first", x.run(), 0);
    long digest = x.digest();
    int steps = x.count(3);
    for (int i = 0; i < 5; i++) {
      due("again", x.run(), 0);
      due("again: digest", x.digest(), digest);
      due("again: steps", x.count(3), steps);
      due("again: growths", x.about(0, 0), 2);
      due("again: makings", x.about(5, 4), 2);
      due("again: threw", x.about(5, 5), 1);
    }
    told("again: CLOSED not from the start", x, 3, 0, WELL, 5);
    // A run that ends while an ACT WAITS leaves nothing behind.
    x = deque(1, PLAIN, 2);
    x.act(0, 0, LAST, 5, 0);
    x.act(0, 0, LAST, 6, 0);
    for (int i = 0; i < 3; i++) {
      due("stuck", x.run(), 1);
      due("stuck: waited", x.waited(0, 1), 1);
      due("stuck: waiting", x.count(5), 1);
      cards("stuck", x, 0, 0, 5);
    }
    x.act(1, 0, HEAD, 0, 0);
    due("not stuck any more", x.run(), 0);
    cards("not stuck", x, 0, 0, 6);
  }

  // ---- 3: "by the CLERK whom the BATON's choice i names, if that one is ABLE, else by the least one that is ABLE"

  private static void batonNamesOneWhoIsNotAble() {
    CardIndex x = desk(PLAIN, 3, DEQUE, COPIES);
    x.act(0, 1, GET, 0, 0);
    x.act(1, 0, HEAD, 0, 0);
    x.act(2, 1, GET, 0, 0);
    x.act(2, 1, GET, 0, 0);
    play(x, "1 1 1 4 3");
    mark("named", x, 0, 1, 0, 0, 0);
    mark("it WAITS: the least one", x, 1, 0, 0, 0, 2);
    mark("it does not exist: the least one", x, 3, 2, 0, 0, 3);
    mark("it does not exist either", x, 5, 2, 1, 0, 4);
    play(x, "0 0 2 2 2 2");
    mark("it has no ACT left: the least one", x, 2, 1, 0, 0, 1);
    mark("named, behind it", x, 3, 2, 0, 0, 2);
    x.baton(1, NONE);
    x.run();
    mark("none is named: the least one", x, 2, 1, 0, 0, 1);
    // Four acts of 72 steps each: the choice 287 is the last one that finds two who are able.
    x = desk(PLAIN, 4, COUNTER, COUNTER, COUNTER, COUNTER);
    for (int c = 0; c < 4; c++) for (int i = 0; i < 8; i++) x.act(c, c, SUM, 0, 0);
    x.baton(215, 3);
    x.baton(256, 3);
    due("long", x.run(), 0);
    due("long: steps", x.count(3), 288);
    mark("long: the choice 215", x, 47, 3, 0, 0, 215);
    mark("long: then the least one", x, 48, 2, 7, 1, 216);
    x.baton(215, NONE);
    x.run();
    mark("long: without it", x, 47, 2, 7, 1, 215);
    mark("long: the last step", x, 63, 3, 7, 1, 287);
  }

  /** "An ACT begins with its first STEP, ends with its last one". */
  private static void stepsOfOneAct() {
    int[][] acts = {
      {MAP, PUT, 4}, {MAP, GET, 3}, {MAP, OUT, 4}, {MAP, MAP_ADD, 4}, {QUEUE, PUT, 4}, {QUEUE, POLL, 4},
      {DEQUE, LAST, 4}, {DEQUE, FIRST, 4}, {DEQUE, CLOSE, 4}, {COUNTER, ADD, 4}, {COUNTER, SUM, 9},
      {COPIES, PUT, 4}, {COPIES, GET, 1}, {COPIES, OUT, 4}, {COPIES, COPIES_ALL, 1}, {ONCE, MAKE, 8}};
    for (int[] act : acts) {
      for (int fault = 0; fault < 3; fault++) {
        CardIndex x = desk(fault, 1, act[0]);
        x.act(0, 0, act[1], 1, 1);
        String what = "kind " + act[0] + ", op " + act[1] + ", fault " + fault;
        due(what, x.run(), 0);
        due(what + " steps", x.count(3), act[2]);
        mark(what, x, 0, 0, 0, 0, 0);
        mark(what, x, 1, 0, 0, 1, act[2] - 1);
        due(what + " marks", x.count(4), 2);
        due(what + " fits", x.fits(0), 1);
      }
    }
  }

  // ---- 3: "PATIENCE of an ACT, n above 0: when n STEPS were done since it began to WAIT (this time)"

  /** HEAD waits behind two steps; others do so many then. */
  private static CardIndex oneWhoWaits(int n, int steps) {
    CardIndex x = desk(PLAIN, 5, DEQUE, MAP, COPIES);
    x.act(0, 0, HEAD, 0, 0);
    x.patience(0, 0, n);
    int acts = 0;
    for (int left = steps; left > 0; acts++) {
      boolean four = left >= 4;
      x.act(1 + acts / 8, four ? 1 : 2, four ? PUT : GET, 0, 0);
      left -= four ? 4 : 1;
    }
    return x;
  }

  private static void patienceOfN() {
    for (int n : new int[] {1, 2, 3, 50, 99, 100}) {
      CardIndex x = oneWhoWaits(n, n - 1);
      due(n + " less one", x.run(), 1);
      told(n + " less one", x, 0, 0, WAITS, 0);
      due(n + " less one: steps", x.count(3), 2 + n - 1);
      x = oneWhoWaits(n, n);
      due(n + " just", x.run(), 0);
      told(n + " just", x, 0, 0, TIRED, 0);
      due(n + " just: steps", x.count(3), 2 + n + 1);
      mark(n + " just", x, x.count(4) - 1, 0, 0, 1, 2 + n);
      due(n + " just: waited", x.waited(0, 0), 1);
      x = oneWhoWaits(n, 110);
      due(n + " and more", x.run(), 0);
      due(n + " and more: steps", x.count(3), 2 + 110 + 1);
      x.patience(0, 0, 0);
      due("0: none", x.run(), 1);
      told("0: none", x, 0, 0, WAITS, 0);
    }
  }

  /** Woken, it waits anew, and the n steps are counted anew. */
  private static void patienceThisTime() {
    CardIndex x = desk(PLAIN, 3, DEQUE, MAP);
    x.act(0, 0, HEAD, 0, 0);
    x.act(1, 0, LAST, 5, 0);
    x.act(1, 0, HEAD, 0, 0);
    for (int i = 0; i < 2; i++) x.act(2, 1, PUT, 0, 0);
    x.patience(0, 0, 8);
    // It waits from 2 on, is woken with STEP 4, and waits from 12 on, when the card is gone.
    due("this time", play(x, "00 1111 1111 00 2222 2222 2"), 0);
    due("this time: waited", x.waited(0, 0), 2);
    told("this time", x, 0, 0, TIRED, 0);
    mark("this time", x, 9, 0, 0, 1, 20);
    x.patience(0, 0, 9);
    due("one more", x.run(), 1);
    told("one more", x, 0, 0, WAITS, 0);
    x.patience(0, 0, 7);
    due("one less, named later", x.run(), 0);
    mark("one less, named later", x, 9, 0, 0, 1, 20);
    x.baton(19, 0);
    x.run();
    mark("one less", x, 8, 0, 0, 1, 19);
  }

  /** "and it still WAITS, it is ABLE, and its next STEP GIVES UP": it may be woken before that step. */
  private static void patienceStillWaits() {
    CardIndex x = deque(1, PLAIN, 2);
    x.act(0, 0, HEAD, 0, 0);
    x.act(1, 0, LAST, 5, 0);
    x.patience(0, 0, 2);
    due("able, and the least one", play(x, "00 11"), 0);
    told("gives up", x, 0, 0, TIRED, 0);
    mark("gives up", x, 2, 0, 0, 1, 4);
    cards("gives up", x, 0, 0, 5);
    due("gives up: TIRED is left out", x.fits(0), 1);
    due("gives up: one try", x.tries(), 1);
    due("woken ahead of it", play(x, "00 111"), 0);
    told("woken ahead of it", x, 0, 0, WELL, 5);
    due("woken ahead of it: steps", x.count(3), 10);
    x.patience(0, 0, 3);
    due("not able yet", play(x, "00 11 0"), 0);
    told("not able yet", x, 0, 0, WELL, 5);
    // The woken ACT is no longer one that WAITS: its next STEP is its TAKE.
    x.patience(0, 0, 1);
    due("woken, and named late", play(x, "00 1 1 1 1 0"), 0);
    told("woken, and named late", x, 0, 0, WELL, 5);
  }

  /** To give up is a STEP too. */
  private static void patienceOfTwo() {
    CardIndex x = desk(PLAIN, 2, DEQUE, COPIES);
    x.act(0, 0, HEAD, 0, 0);
    x.act(1, 0, HEAD, 0, 0);
    x.patience(0, 0, 2);
    x.patience(1, 0, 2);
    due("two", x.run(), 1);
    mark("the first one is TIRED", x, 2, 0, 0, 1, 4);
    told("the second one waits", x, 1, 0, WAITS, 0);
    x.patience(1, 0, 1);
    due("one is enough", x.run(), 0);
    mark("the step that gave up counts", x, 3, 1, 0, 1, 5);
    x.patience(1, 0, 2);
    x.act(0, 1, GET, 0, 0);
    due("goes on behind it", x.run(), 0);
    told("the next ACT", x, 0, 1, NONE_THERE, 0);
    mark("the next ACT", x, 3, 0, 1, 0, 5);
    mark("two are enough", x, 5, 1, 0, 1, 6);
    for (int n = 1; n <= 100; n += 33) {
      x = deque(1, PLAIN, 1);
      x.act(0, 0, HEAD, 0, 0);
      x.patience(0, 0, n);
      due("nobody steps", x.run(), 1);
      due("nobody steps: steps", x.count(3), 2);
    }
  }

  private static void patienceChangesNothingElse() {
    CardIndex x = desk(PLAIN, 2, ONCE, DEQUE);
    x.act(0, 0, MAKE, 3, 0);
    x.act(1, 0, MAKE, 3, 0);
    x.patience(0, 0, 1);
    x.patience(1, 0, 1);
    due("TIRED of an ONCE", play(x, "0000 11 0 1"), 0);
    told("TIRED of an ONCE", x, 1, 0, TIRED, 0);
    told("the other makes", x, 0, 0, WELL, 1000);
    due("one making", x.about(0, 4), 1);
    due("what does not wait is not TIRED", x.waited(0, 0), 0);
    cards("one VALUE", x, 0, 3, 1000);
  }

  private static void outcomesOfOneRun() {
    CardIndex x = desk(PLAIN, 3, DEQUE, ONCE, MAP, DEQUE);
    x.act(0, 2, PUT, 1, 7);
    x.act(0, 2, PUT, 1, 8);
    x.act(0, 1, MAKE, 0, 0);
    x.act(0, 3, CLOSE, 0, 0);
    x.act(0, 3, HEAD, 0, 0);
    x.act(0, 0, TAIL, 0, 0);
    x.act(0, 2, GET, 1, 0);
    x.act(1, 0, HEAD, 0, 0);
    x.act(1, 2, GET, 1, 0);
    x.act(2, 2, OUT, 1, 0);
    x.throwing(1, 0, 1);
    x.patience(0, 5, 1);
    due("all outcomes", x.run(), 1);
    int[] outcomes = {NONE_THERE, WELL, THREW, WELL, CLOSED, TIRED, WELL};
    int[] answers = {0, 7, 0, 0, 0, 0, 8};
    for (int i = 0; i < 7; i++) told("outcome of act " + i, x, 0, i, outcomes[i], answers[i]);
    told("it WAITS", x, 1, 0, WAITS, 0);
    told("not begun", x, 1, 1, NOT_BEGUN, 0);
    told("the last clerk", x, 2, 0, WELL, 8);
    due("acts that WAIT", x.count(5), 1);
    due("marks", x.count(4), 2 * 7 + 1 + 2);
  }

  // ---- 3: "It goes on till none is ABLE, or 600 STEPS are done"

  /**
   * Four KEYS of an ONCE that are made ten times each, nine times to throw, while all others wait
   * and are woken by each WRITE: the dearest run that we know of, and it ends.
   */
  private static void longRun() {
    CardIndex x = desk(PLAIN, 5, ONCE);
    for (int key = 0; key < 4; key++) x.throwing(0, key, 9);
    for (int c = 0; c < 5; c++) for (int i = 0; i < 8; i++) x.act(c, 0, MAKE, i / 2, 0);
    LongBaton baton = new LongBaton(x);
    for (int making = 0; making < 40; making++) baton.write(making);
    due("long run", x.run(), 0);
    due("long run: steps", x.count(3), 596);
    due("long run: steps of the baton", x.count(3), baton.steps);
    due("long run: makings", x.about(0, 4), 40);
    due("long run: threw", x.about(0, 5), 36);
    due("long run: marks", x.count(4), 80);
    mark("long run: the last step", x, 79, 4, 7, 1, 595);
    due("long run: no mark 80", x.mark(80, 0), NONE);
    int waited = 0;
    for (int c = 0; c < 5; c++) for (int i = 0; i < 8; i++) waited += x.waited(c, i);
    due("long run: waited", waited, (596 - 40 * 8) / 2);
    cards("long run", x, 0, 0, 5001, 1, 5003, 2, 5005, 3, 5007);
    due("long run: too many acts", x.fits(0), NONE);
  }

  /** Names a clerk only where a lesser one is able, as there are but 512 calls. */
  private static final class LongBaton {
    final CardIndex x;
    final boolean[] waits = new boolean[5];
    final int[] left = {8, 8, 8, 8, 8};
    int steps = 0;
    int holds = NONE;

    LongBaton(CardIndex x) {
      this.x = x;
    }

    /** MAKING is by clerk MAKING % 5; 0 has MARKED the next KEY as soon as it is through with this one. */
    void write(int making) {
      int maker = making % 5;
      int inKey = making % 10;
      boolean lastKey = making >= 30;
      if (holds != maker) step(maker, 4);
      for (int c = 0; c < 5; c++) {
        boolean through = inKey > c + 5;
        if (c == maker || c == holds || through && lastKey) continue;
        if (through && c == 0) {
          step(0, 4);
          holds = 0;
          continue;
        }
        step(c, 2);
        waits[c] = true;
      }
      step(maker, 4);
      if (holds == maker) holds = NONE;
      left[maker]--;
      for (int c = 0; c < 5; c++) waits[c] = false;
    }

    void step(int clerk, int many) {
      for (int i = 0; i < many; i++) {
        boolean lesser = false;
        for (int c = 0; c < clerk; c++) lesser |= left[c] > 0 && !waits[c];
        if (lesser) x.baton(steps, clerk);
        steps++;
      }
    }
  }
}
