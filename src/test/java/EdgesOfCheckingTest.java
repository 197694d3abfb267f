/** The edges of section 4 and of promises 18 to 23: what is checked, tried, told and explored. */
public final class EdgesOfCheckingTest extends Asking {
  public static void main(String[] args) {
    noActs();
    twelveActs();
    twelveAndOthers();
    otherTraysDoNotCount();
    endsAheadOfBegins();
    mustNotWait();
    fullInThePlainTray();
    cardsOfTheEnd();
    endsThatAnswersDoNotTell();
    closedAndEmpty();
    answersOfEachKind();
    plainMake();
    theFirstOrder();
    orderNumbers();
    triesAlsoWhereForbidden();
    rowsBeginAnew();
    justThreeThousand();
    moreThanThreeThousand();
    latestTries();
    firstOfThem();
    fitsNumbers();
    exploreNumbers();
    exploreJustAThousand();
    exploreCountsRunsGoneThrough();
    exploreRefusedStays();
    exploreNothing();
    allOfThemOrOneLess();
    leastOnesFirst();
    exploringPatienceAndThrowing();
    exploringTellsApart();
    exploringFortyActs();
    exploringSixtyKinds();
    exploringStuckOnes();
    exploringJustThreeHundred();
    exploringThirteenActs();
    exploredNumbers();
    end("EdgesOfCheckingTest");
  }

  // ---- 4: "takes ACTS of a TRAY that ended, but not TIRED .. (12 at most)"

  private static void noActs() {
    for (int kind = MAP; kind <= ONCE; kind++) {
      for (int fault = 0; fault < 3; fault++) {
        CardIndex x = desk(fault, 1, kind);
        x.run();
        due("no acts", x.fits(0), 1);
        due("no acts: tries", x.tries(), 0);
        due("no acts: order", x.order(0, 0), NONE);
        due("no acts: first", x.first(), NONE);
      }
    }
  }

  private static void twelveActs() {
    for (int acts = 1; acts <= 16; acts++) {
      CardIndex x = desk(PLAIN, 2, COPIES);
      for (int i = 0; i < acts; i++) x.act(i / 8, 0, GET, 0, 0);
      x.run();
      due(acts + " acts", x.fits(0), acts <= 12 ? 1 : NONE);
      // One after the other: the first one that is tried at a place is the one.
      due(acts + " acts: tries", x.tries(), acts <= 12 ? acts : 0);
      // Clerk 0 has the first eight of them: 8 times the CLERK, and its number, is where it stands.
      due(acts + " acts: the last one", x.order(0, acts - 1), acts <= 12 ? acts - 1 : NONE);
      due(acts + " acts: no more", x.order(0, acts), NONE);
    }
  }

  /** One that is TIRED, one that WAITS and one that is not begun are not among the twelve. */
  private static void twelveAndOthers() {
    CardIndex x = deque(8, PLAIN, 5);
    for (int i = 0; i < 6; i++) x.act(0, 0, LAST, i, 0);
    for (int i = 0; i < 6; i++) x.act(1, 0, HEAD, 0, 0);
    x.act(2, 0, HEAD, 0, 0);
    x.act(3, 0, HEAD, 0, 0);
    x.act(3, 0, HEAD, 0, 0);
    x.patience(2, 0, 1);
    due("twelve and others", x.run(), 1);
    told("TIRED", x, 2, 0, TIRED, 0);
    told("WAITS", x, 3, 0, WAITS, 0);
    told("not begun", x, 3, 1, NOT_BEGUN, 0);
    due("twelve and others fit", x.fits(0), 1);
    due("twelve and others: tries", x.tries(), 12);
    due("the twelfth", x.order(0, 11), 8 + 5);
    due("no thirteenth", x.order(0, 12), NONE);
    // CLOSE ends one more, and what WAITS ends CLOSED.
    x.act(4, 0, CLOSE, 0, 0);
    due("and CLOSE", x.run(), 0);
    due("more than twelve", x.fits(0), NONE);
    due("more than twelve: no order", x.order(0, 0), NONE);
    due("more than twelve: tries", x.tries(), 12);
    due("more than twelve: first", x.first(), NONE);
  }

  private static void otherTraysDoNotCount() {
    CardIndex x = desk(PLAIN, 4, COPIES, COPIES);
    for (int c = 0; c < 4; c++) for (int i = 0; i < 6; i++) x.act(c, (i + c) % 2, GET, 0, 0);
    x.run();
    for (int t = 0; t < 2; t++) {
      due("twelve of each", x.fits(t), 1);
      due("twelve of each: tries", x.tries(), 12);
    }
    due("the second tray's first one", x.order(1, 0), 1);
  }

  // ---- 4: "x is ahead of y if x ended ahead of y's begin"

  /** EARLY: the GET reads ahead of the PUT's WRITE; it may stand first only if it began ahead of the PUT's end. */
  private static void endsAheadOfBegins() {
    CardIndex x = desk(EARLY, 2, MAP);
    x.act(0, 0, PUT, 1, 5);
    x.act(1, 0, GET, 1, 0);
    play(x, "000 1 0 1 1");
    mark("GET begins", x, 1, 1, 0, 0, 3);
    mark("PUT ends", x, 2, 0, 0, 1, 4);
    told("GET behind the WRITE", x, 1, 0, WELL, 5);
    due("PUT, GET", x.order(0, 0), 0);
    play(x, "000 1 1 0");
    told("GET ahead of the WRITE", x, 1, 0, NONE_THERE, 0);
    due("they overlap", x.fits(0), 1);
    due("GET, PUT", x.order(0, 0), 8);
    due("GET, PUT", x.order(0, 1), 0);
    // OUT writes what it noted ahead of the PUT, whose card is lost; a GET behind that PUT sees it.
    x = desk(BARE, 2, COPIES);
    x.act(0, 0, PUT, 1, 5);
    x.act(0, 0, GET, 1, 0);
    x.act(1, 0, OUT, 2, 0);
    play(x, "0 11 000 11 0");
    told("OUT of none", x, 1, 0, NONE_THERE, 0);
    told("the card is lost", x, 0, 1, NONE_THERE, 0);
    due("GET may not stand ahead of its own PUT", x.fits(0), 0);
    // PUT, OUT, GET (no), GET (no); OUT, PUT, GET (no), GET (no); GET (no).
    due("all were tried", x.tries(), 9);
  }

  // ---- 4: "when it is done wholly at once (it must not have to WAIT)"

  private static void mustNotWait() {
    CardIndex x = deque(1, PLAIN, 2);
    x.act(0, 0, HEAD, 0, 0);
    x.act(1, 0, LAST, 0, 0);
    due("HEAD waits for LAST", x.run(), 0);
    told("HEAD of a 0", x, 0, 0, WELL, 0);
    due("HEAD waits for LAST: fits", x.fits(0), 1);
    due("HEAD may not be first", x.order(0, 0), 8);
    due("a try of HEAD, of LAST, of HEAD", x.tries(), 3);
    x = deque(1, PLAIN, 2);
    x.act(0, 0, LAST, 5, 0);
    x.act(0, 0, LAST, 6, 0);
    x.act(1, 0, HEAD, 0, 0);
    due("LAST waits for HEAD", x.run(), 0);
    due("LAST waits for HEAD: fits", x.fits(0), 1);
    due("HEAD is the second one", x.order(0, 1), 8);
    due("LAST is the third one", x.order(0, 2), 1);
    due("the full one is a try too", x.tries(), 4);
  }

  /** The plain DEQUE has the same bound, and no FAULT. */
  private static void fullInThePlainTray() {
    for (int a = 1; a <= 3; a++) {
      CardIndex x = deque(a, EARLY, 3);
      for (int c = 0; c < 3; c++) x.act(c, 0, LAST, c, 0);
      due("three at once", play(x, "000 111 222 0 1 2"), 0);
      due("three at once: size", x.size(0), 3);
      due("a DEQUE of " + a, x.fits(0), a == 3 ? 1 : 0);
      // All are in the order of their begins, if they may be: else each row ends where it is full.
      due("a DEQUE of " + a + ": tries", x.tries(), a == 3 ? 3 : a == 2 ? 3 * (1 + 2 * (1 + 1)) : 3 * (1 + 2));
    }
  }

  // ---- 4: "and has the CARDS that the TRAY has in the end"

  private static void cardsOfTheEnd() {
    // QUEUE: in their order. The one that began first wrote last.
    CardIndex x = desk(BARE, 2, QUEUE);
    x.act(0, 0, PUT, 5, 0);
    x.act(1, 0, PUT, 6, 0);
    play(x, "00 1111 00");
    cards("QUEUE", x, 0, 0, 6, 1, 5);
    due("QUEUE fits", x.fits(0), 1);
    due("QUEUE: as they stand there", x.order(0, 0), 8);
    due("QUEUE: both orders", x.tries(), 4);
    // MAP: the ROWS are not looked at, the KEYS and VALUES are.
    x = desk(BARE, 2, MAP);
    x.act(0, 0, PUT, 0, 5);
    x.act(1, 0, PUT, 4, 6);
    play(x, "00 1111 00");
    cards("MAP", x, 0, 0, 5, 4, 6);
    due("MAP: any order", x.order(0, 0), 0);
    due("MAP: the first one", x.tries(), 2);
    x = desk(BARE, 2, MAP);
    x.act(0, 0, PUT, 0, 5);
    x.act(1, 0, PUT, 0, 5);
    play(x, "00 11 00 11");
    told("both noted none", x, 1, 0, NONE_THERE, 0);
    due("MAP: the same card, but not the answers", x.fits(0), 0);
    // COUNTER: the same sum. Clerks 0 and 4 lose one; the answers alone tell it here.
    x = desk(BARE, 5, COUNTER);
    x.act(0, 0, ADD, 0, 0);
    x.act(4, 0, ADD, 3, 0);
    play(x, "00 4444 00");
    told("ADD of 0 wrote what it noted", x, 0, 0, WELL, 0);
    cards("the 3 is lost", x, 0, 0, 0, 1, 0, 2, 0, 3, 0);
    due("COUNTER: the sum is not the same", x.fits(0), 0);
    due("COUNTER: 0 then 3 is answered alike, 3 then 0 is not", x.tries(), 4);
    // DEQUE: what was there already is taken by both.
    x = deque(2, BARE, 2);
    x.act(0, 0, LAST, 5, 0);
    x.act(0, 0, LAST, 5, 0);
    x.act(0, 0, HEAD, 0, 0);
    x.act(1, 0, HEAD, 0, 0);
    x.act(1, 0, LAST, 5, 0);
    play(x, "0000 0000 00 11 0 11 0 1111");
    cards("DEQUE", x, 0, 0, 5);
    due("DEQUE: two out of two, and one in", x.fits(0), 1);
    // COPIES: the later WRITE has what was noted ahead of the other's.
    x = desk(BARE, 2, COPIES);
    x.act(0, 0, PUT, 0, 0);
    x.act(1, 0, PUT, 1, 0);
    play(x, "00 1111 00");
    cards("COPIES: a VALUE of 0 is lost", x, 0, 0, 0);
    due("COPIES", x.fits(0), 0);
    due("COPIES: both orders to their ends", x.tries(), 4);
  }

  /** Here one row has all the answers, and other cards. */
  private static void endsThatAnswersDoNotTell() {
    // PUT, POLL, PUT, POLL leaves none; but the second POLL took nothing, as it was ahead of the second PUT.
    CardIndex x = desk(BARE, 2, QUEUE);
    x.act(0, 0, PUT, 5, 0);
    x.act(0, 0, POLL, 0, 0);
    x.act(0, 0, PUT, 5, 0);
    x.act(1, 0, POLL, 0, 0);
    play(x, "0000 00 11 00 00 1 0 1 0");
    told("POLL", x, 0, 1, WELL, 5);
    told("POLL of the same", x, 1, 0, WELL, 5);
    cards("one is left", x, 0, 0, 5);
    due("QUEUE: one too many", x.fits(0), 0);
    x = deque(2, BARE, 2);
    x.act(0, 0, LAST, 5, 0);
    x.act(0, 0, HEAD, 0, 0);
    x.act(0, 0, FIRST, 5, 0);
    x.act(1, 0, TAIL, 0, 0);
    play(x, "0000 00 11 00 00 1 0 1 0");
    told("TAIL of the same", x, 1, 0, WELL, 5);
    cards("one is left", x, 0, 0, 5);
    due("DEQUE: one too many", x.fits(0), 0);
    // Both note 5; PUT of 5, then PUT of 7 has these answers, but 7 was written first.
    for (int[] act : new int[][] {{MAP, 0}, {MAP, 31}, {COPIES, 0}, {COPIES, 31}}) {
      int key = act[1];
      x = desk(BARE, 2, act[0]);
      x.act(0, 0, PUT, key, 5);
      x.act(0, 0, PUT, key, 5);
      x.act(1, 0, PUT, key, 7);
      play(x, "0000 00 1111 00");
      told("PUT of 5", x, 0, 1, WELL, 5);
      told("PUT of 7", x, 1, 0, WELL, 5);
      cards("5 stays", x, 0, key, 5);
      due("another VALUE", x.fits(0), 0);
      play(x, "0000 00 11 00 11");
      cards("7 stays", x, 0, key, 7);
      due("the same VALUE", x.fits(0), 1);
    }
  }

  /** A plain DEQUE that is CLOSED and empty answers CLOSED, and one that is not CLOSED nothing. */
  private static void closedAndEmpty() {
    CardIndex x = deque(1, PLAIN, 2);
    x.act(0, 0, HEAD, 0, 0);
    x.act(1, 0, CLOSE, 0, 0);
    x.run();
    told("HEAD", x, 0, 0, CLOSED, 0);
    due("CLOSE, HEAD", x.fits(0), 1);
    due("CLOSE is first", x.order(0, 0), 8);
    due("HEAD is a try ahead of it", x.tries(), 3);
    x = deque(2, BARE, 3);
    x.act(0, 0, LAST, 5, 0);
    x.act(0, 0, HEAD, 0, 0);
    x.act(1, 0, TAIL, 0, 0);
    x.act(2, 0, CLOSE, 0, 0);
    play(x, "0000 00 11 22 00 11 22");
    told("HEAD", x, 0, 1, WELL, 5);
    told("TAIL", x, 1, 0, WELL, 5);
    due("one card for two, and CLOSE", x.fits(0), 0);
    // CLOSE began first, and is taken back when LAST is not answered as CLOSED.
    x = deque(2, BARE, 2);
    x.act(0, 0, CLOSE, 0, 0);
    x.act(1, 0, LAST, 5, 0);
    play(x, "0 11 000 11");
    due("LAST, CLOSE", x.fits(0), 1);
    due("LAST is first", x.order(0, 0), 8);
    due("CLOSE, LAST (no), LAST, CLOSE", x.tries(), 4);
  }

  /** Each answer and OUTCOME counts: here the cards of the end would fit. */
  private static void answersOfEachKind() {
    // QUEUE: two POLLS noted the only card.
    CardIndex x = desk(BARE, 2, QUEUE);
    x.act(0, 0, PUT, 0, 0);
    x.act(0, 0, POLL, 0, 0);
    x.act(1, 0, POLL, 0, 0);
    play(x, "0000 00 11 00 11");
    told("POLL of 0", x, 0, 1, WELL, 0);
    told("POLL of 0 too", x, 1, 0, WELL, 0);
    due("QUEUE: 0 is not none", x.fits(0), 0);
    // COPIES: ALL between two PUTS, one of which it should have seen.
    x = desk(PLAIN, 2, COPIES);
    x.act(0, 0, PUT, 0, 1);
    x.act(1, 0, COPIES_ALL, 0, 0);
    x.act(1, 0, COPIES_ALL, 0, 0);
    play(x, "00 1 0 1");
    told("ALL ahead of the WRITE", x, 1, 0, WELL, 0);
    told("ALL behind the WRITE", x, 1, 1, WELL, 1);
    due("COPIES: between them", x.order(0, 1), 0);
    due("COPIES fits", x.fits(0), 1);
    // COUNTER: a SUM that saw a later ADD, and not an earlier one.
    x = desk(BARE, 4, COUNTER);
    x.act(0, 0, SUM, 0, 0);
    x.act(1, 0, ADD, 1, 0);
    x.act(2, 0, ADD, 2, 0);
    play(x, "00000 1111 2222");
    told("SUM ahead of both", x, 0, 0, WELL, 0);
    due("COUNTER fits", x.order(0, 0), 0);
    play(x, "0000 1111 0 2222");
    told("SUM between", x, 0, 0, WELL, 1);
    due("COUNTER: SUM is the second one", x.order(0, 1), 0);
    due("COUNTER: SUM first, ADD 1, SUM, ADD 2", x.tries(), 1 + 1 + 1 + 1);
  }

  /** "Plain MAKE: .. the KEY must have none, and has it then; THREW: it must have none; else it must have that one". */
  private static void plainMake() {
    CardIndex x = desk(PLAIN, 3, ONCE);
    x.act(0, 0, MAKE, 3, 0);
    x.act(1, 0, MAKE, 3, 0);
    x.act(2, 0, MAKE, 3, 0);
    x.throwing(0, 3, 1);
    due("ONCE", play(x, "0000 11 22 0000 22222222"), 0);
    told("THREW", x, 0, 0, THREW, 0);
    told("2 made", x, 2, 0, WELL, 3000);
    told("1 found", x, 1, 0, WELL, 3000);
    due("ONCE fits", x.fits(0), 1);
    due("THREW is first", x.order(0, 0), 0);
    due("then who made", x.order(0, 1), 16);
    due("then who found", x.order(0, 2), 8);
    due("1 is tried ahead of 2", x.tries(), 4);
    // BARE: THREW ends behind a VALUE, but began ahead of it.
    x = desk(BARE, 2, ONCE);
    x.act(0, 0, MAKE, 3, 0);
    x.act(0, 0, MAKE, 3, 0);
    x.act(1, 0, MAKE, 3, 0);
    x.throwing(0, 3, 1);
    play(x, "00 11 11 1 00 000 000");
    told("who made", x, 0, 0, WELL, 1000);
    told("who threw", x, 1, 0, THREW, 0);
    told("who found", x, 0, 1, WELL, 1000);
    due("THREW stands first, though it began second", x.order(0, 0), 8);
    due("made, THREW (no), found, THREW (no); THREW, made, found", x.tries(), 7);
    // Two made, one of which began behind the other's end: it could not have been the first one.
    x = desk(BARE, 2, ONCE);
    x.act(0, 0, MAKE, 3, 0);
    x.act(1, 0, MAKE, 3, 0);
    play(x, "00 11 00000 0 1");
    due("two made", x.about(0, 4), 2);
    due("two made: no order", x.fits(0), 0);
    due("two made: tries", x.tries(), 4);
  }

  // ---- 4: "the first ORDER it comes to is THE ORDER"

  private static void theFirstOrder() {
    CardIndex x = desk(BARE, 5, COPIES);
    for (int c = 0; c < 5; c++) x.act(c, 0, OUT, c, 0);
    play(x, "4 2 0 3 1");
    due("any order fits", x.fits(0), 1);
    due("no more tries than acts", x.tries(), 5);
    int[] begins = {4, 2, 0, 3, 1};
    for (int i = 0; i < 5; i++) due("as they began", x.order(0, i), 8 * begins[i]);
    // Of 1, 2 and 3 in a QUEUE only one row is in their order; it is the last one that is tried.
    x = desk(BARE, 3, QUEUE);
    for (int c = 0; c < 3; c++) x.act(c, 0, PUT, c, 0);
    play(x, "00 11 22 22 11 00");
    for (int i = 0; i < 3; i++) due("as they stand there", x.order(0, i), 8 * (2 - i));
    due("the last row of six", x.tries(), 15);
  }

  // ---- promise 19

  private static void orderNumbers() {
    CardIndex x = desk(PLAIN, 5, COPIES, COPIES);
    x.act(4, 0, GET, 0, 0);
    for (int i = 0; i < 8; i++) x.act(3, 1, GET, 0, 0);
    bad("order, no run", n -> x.order(n, 0), LOW, -1, 2, 6, HIGH);
    due("order, no run", x.order(0, 0), NO);
    x.run();
    bad("order", n -> x.order(n, 0), LOW, -1, 2, 6, HIGH);
    due("order of one", x.order(0, 0), 32);
    for (int i = 0; i < 8; i++) due("order of eight", x.order(1, i), 24 + i);
    for (int i : new int[] {LOW, -1, 8, 9, 12, HIGH}) due("order, not so many", x.order(1, i), NONE);
    for (int i : new int[] {LOW, -1, 1, 2, HIGH}) due("order, not so many", x.order(0, i), NONE);
  }

  // ---- 4: "each trial at a place of an ACT that is not placed yet is a TRY, also where x, y or the answer forbid it"

  private static void triesAlsoWhereForbidden() {
    // Two that lose a card, and so many behind them, one after the other, the first of which saw it.
    // A row of the two ends there, with a TRY of each of these; with r of the two to be placed they
    // are forbidden too: f(0) = s, f(r) = r (1 + f(r - 1)) + s, so that f(2) = 4 + 5 s.
    for (int behind = 0; behind <= 8; behind++) {
      CardIndex x = desk(BARE, 3, COPIES);
      x.act(0, 0, PUT, 0, 5);
      x.act(1, 0, PUT, 1, 5);
      for (int i = 0; i < behind; i++) x.act(2, 0, COPIES_ALL, 0, 0);
      play(x, "00 11 00 11");
      due("a card is lost", x.fits(0), 0);
      due("tries, " + behind + " behind", x.tries(), 4 + 5 * behind);
    }
    // An ACT that is placed is no TRY any more; one whose answer forbids it is one at each place.
    CardIndex x = deque(8, PLAIN, 4);
    for (int c = 0; c < 3; c++) x.act(c, 0, HEAD, 0, 0);
    for (int i = 0; i < 3; i++) x.act(3, 0, LAST, i, 0);
    due("three HEADS wait for three LASTS", x.run(), 0);
    due("three HEADS, LAST; HEAD; two HEADS, LAST; HEAD; HEAD, LAST; HEAD", x.fits(0), 1);
    due("three HEADS: tries", x.tries(), 4 + 1 + 3 + 1 + 2 + 1);
  }

  /** What a row that failed had done is not there in the next one. */
  private static void rowsBeginAnew() {
    // Behind a PUT of 5 the ACT that began first changes it; the GET noted 5 ahead of that.
    int[][] changes = {{MAP, PUT}, {MAP, OUT}, {MAP, MAP_ADD}, {COPIES, PUT}, {COPIES, OUT}};
    for (int[] change : changes) {
      CardIndex x = desk(BARE, 2, change[0]);
      x.act(0, 0, PUT, 1, 5);
      x.act(0, 0, change[1], 1, 7);
      x.act(1, 0, GET, 1, 0);
      play(x, "0000 0 111 000");
      String what = "kind " + change[0] + ", op " + change[1];
      due(what, x.fits(0), 1);
      due(what + ": GET stands ahead of it", x.order(0, 1), 8);
      due(what + ": PUT, it, GET (no), GET, it", x.tries(), 5);
    }
    // Two take the only card: PUT, one, other (no), other, one (no); and two that are forbidden.
    int[][] takes = {
      {QUEUE, PUT, POLL, POLL}, {DEQUE, LAST, HEAD, HEAD}, {DEQUE, LAST, HEAD, TAIL}, {DEQUE, FIRST, TAIL, HEAD}};
    for (int[] take : takes) {
      CardIndex x = desk(BARE, 2, take[0]);
      x.act(0, 0, take[1], 5, 0);
      x.act(0, 0, take[2], 0, 0);
      x.act(1, 0, take[3], 0, 0);
      play(x, "0000 00 11 00 11");
      due("two take the only card", x.fits(0), 0);
      due("two take the only card: tries", x.tries(), 7);
    }
    readingChangesNothing();
    // Of two ADDS to one SHARE each may be the first one, and none the second one.
    CardIndex x = desk(BARE, 5, COUNTER);
    x.act(0, 0, ADD, 3, 0);
    x.act(4, 0, ADD, 3, 0);
    play(x, "00 44 00 44");
    due("two of one SHARE", x.fits(0), 0);
    due("two of one SHARE: tries", x.tries(), 4);
    // Who found it began ahead of who threw, and stands behind who made it: THREW, made, found.
    x = desk(BARE, 3, ONCE);
    for (int c = 0; c < 3; c++) x.act(c, 0, MAKE, 3, 0);
    x.throwing(0, 3, 1);
    play(x, "00 1 22 0 1 22 2 0 000 111 22");
    told("who made", x, 0, 0, WELL, 1000);
    told("who found", x, 1, 0, WELL, 1000);
    told("who threw", x, 2, 0, THREW, 0);
    due("THREW, made, found", x.fits(0), 1);
    int[] order = {16, 0, 8};
    for (int i = 0; i < 3; i++) due("THREW, made, found: " + i, x.order(0, i), order[i]);
    due("made, found, THREW (no), THREW (no); found (no); THREW, made, found", x.tries(), 8);
  }

  /** ALL is no change, whatever its a is: PUT, X, ALL, Y; X, ALL, no Y .. till all was tried. */
  private static void readingChangesNothing() {
    CardIndex x = desk(BARE, 2, COPIES);
    x.act(0, 0, PUT, 1, 5);
    x.act(0, 0, PUT, 3, 0);
    x.act(1, 0, COPIES_ALL, 1, 99);
    x.act(1, 0, PUT, 4, 0);
    play(x, "0000 00 1 1111 00");
    told("ALL", x, 1, 0, WELL, 2 * 5);
    cards("4 is lost", x, 0, 1, 5, 3, 0);
    due("4 is lost", x.fits(0), 0);
    // P, X, ALL, Y, Y(no); ALL, X, Y, Y, X; Y(no); and ahead of P: X, ALL, Y(no).
    due("4 is lost: tries", x.tries(), 14);
  }

  // ---- 4: "It gives up when a further TRY would be above 3000"

  /**
   * Two PUTS, then five at once, written in the order 4, 3, 0, 1, 2, then five more. A row that is
   * not theirs is seen only at its end. The five behind cost 15 TRIES then; with r of the group to
   * be placed it is f(r) = r (1 + f(r - 1)) + 5, as the five behind are tried (and forbidden) too:
   * 15, 21, 49, 155, 629. So 4 rests of 630 and 3 of 156 fail; the row itself has 12.
   */
  private static void justThreeThousand() {
    CardIndex x = desk(BARE, 5, QUEUE);
    x.act(0, 0, PUT, 100, 0);
    x.act(0, 0, PUT, 101, 0);
    for (int c = 0; c < 5; c++) x.act(c, 0, PUT, c, 0);
    for (int i = 0; i < 5; i++) x.act(0, 0, PUT, 200 + i, 0);
    due("twelve PUTS", play(x, "0000 0000 00 11 22 33 44 44 33 00 11 22"), 0);
    cards("as written", x, 0, 0, 100, 1, 101, 2, 4, 3, 3, 4, 0, 5, 1, 6, 2, 7, 200, 8, 201, 9, 202, 10, 203, 11, 204);
    due("just found", x.fits(0), 1);
    due("just 3000", x.tries(), 4 * 630 + 3 * 156 + 12);
    int[] order = {0, 1, 32, 24, 2, 8, 16, 3, 4, 5, 6, 7};
    for (int i = 0; i < 12; i++) due("THE ORDER " + i, x.order(0, i), order[i]);
    due("first", x.first(), NONE);
    // Found by drawing batons: nine acts that lose cards, of which all is tried with the 3000th.
    x = desk(BARE, 5, COPIES);
    int[] ops = {PUT, PUT, GET, PUT, PUT, PUT, PUT, GET, PUT};
    for (int i = 0; i < 9; i++) x.act(i % 5, 0, ops[i], i, 7);
    play(x, "333114440000043331110044444444441443");
    due("just all tried", x.fits(0), 0);
    due("just all tried: tries", x.tries(), 3000);
    due("just all tried: first", x.first(), 0);
  }

  private static void moreThanThreeThousand() {
    // Found by drawing batons: this one needs 3001.
    CardIndex x = desk(BARE, 5, COUNTER, COPIES);
    for (int i = 0; i < 9; i++) x.act(i % 5, 0, ADD, 1, 0);
    play(x, "110000022222223301114411033331113300");
    due("one TRY more", x.fits(0), GAVE_UP);
    due("one TRY more: tries", x.tries(), 3000);
    due("one TRY more: order", x.order(0, 0), NONE);
    due("one TRY more: first", x.first(), NONE);
    x.fits(1);
    due("another tray", x.tries(), 0);
    due("one TRY more: order again", x.order(0, 0), NONE);
    due("order gave up too", x.tries(), 3000);
  }

  // ---- promise 20

  private static void latestTries() {
    CardIndex x = desk(PLAIN, 4, COPIES, COPIES, COPIES, COPIES);
    due("before", x.tries(), 0);
    for (int t = 0; t < 3; t++) for (int i = 0; i <= t; i++) x.act(t, t, GET, 0, 0);
    x.fits(0);
    due("NO", x.tries(), 0);
    x.run();
    for (int t = 2; t >= 0; t--) {
      x.fits(t);
      due("of fits()", x.tries(), t + 1);
    }
    x.order(2, HIGH);
    due("of order(), not so many", x.tries(), 3);
    x.order(1, -1);
    due("of order(), below", x.tries(), 2);
    x.fits(-1);
    x.fits(4);
    x.order(4, 0);
    due("BAD", x.tries(), 2);
    x.first();
    due("of first(): the last tray has no acts", x.tries(), 0);
    x.fits(2);
    x.run();
    due("behind run()", x.tries(), 3);
    x.explore(1);
    due("behind explore()", x.tries(), 3);
    for (int i = 0; i < 8; i++) x.act(3, 3, GET, 0, 0);
    for (int c = 0; c < 3; c++) for (int i = 0; i < 5; i++) x.act(c, 3, GET, 0, 0);
    due("behind a change", x.tries(), 3);
    x.run();
    x.first();
    due("of first(): the last tray has too many acts", x.tries(), 3);
    x.fits(0);
    x.fits(3);
    due("fits() of too many acts", x.tries(), 1);
    x.order(3, 0);
    due("order() of too many acts", x.tries(), 1);
    x.clear();
    due("behind clear()", x.tries(), 1);
    x.run();
    x.first();
    due("first() without trays", x.tries(), 1);
  }

  // ---- promise 21

  private static void firstOfThem() {
    // Trays 1, 3 and 5 lose a card; what is behind the first one of them is not tried.
    for (int many = 0; many <= 3; many++) {
      CardIndex x = desk(BARE, 2, COPIES, COPIES, COPIES, COPIES, COPIES, COPIES);
      int losing = 0;
      for (int t = 5; t > 5 - 2 * many; t -= 2) {
        x.act(0, t, PUT, 0, 1);
        x.act(1, t, PUT, 1, 1);
        losing++;
      }
      for (int i = 0; i < 8 * losing; i++) x.baton(i, i / 2 % 2);
      x.act(0, 0, GET, 0, 0);
      x.run();
      due(many + " lose", x.first(), many == 0 ? NONE : 7 - 2 * many);
      due(many + " lose: tries", x.tries(), many == 0 ? 0 : 4);
    }
    CardIndex x = new CardIndex();
    due("no run", x.first(), NO);
    x.run();
    due("no trays", x.first(), NONE);
  }

  // ---- promise 18

  private static void fitsNumbers() {
    CardIndex x = desk(PLAIN, 1, COPIES, COPIES, COPIES, COPIES, COPIES, COPIES);
    bad("fits, no run", n -> x.fits(n), LOW, -1, 6, 7, HIGH);
    for (int t = 0; t < 6; t++) due("fits, no run", x.fits(t), NO);
    x.run();
    bad("fits", n -> x.fits(n), LOW, -1, 6, 7, HIGH);
    for (int t = 0; t < 6; t++) due("fits", x.fits(t), 1);
  }

  // ---- promise 22

  private static void exploreNumbers() {
    CardIndex x = desk(PLAIN, 3, COPIES);
    for (int c = 0; c < 3; c++) for (int i = 0; i < 3; i++) x.act(c, 0, GET, 0, 0);
    bad("explore", n -> x.explore(n), LOW, -2, -1, 0, 61, 62, 1000, 1001, HIGH);
    due("no run by that", x.count(3), NO);
    for (int most : new int[] {1, 2, 59, 60}) due("explore " + most, x.explore(most), most);
  }

  /** Three clerks with three acts of one step each have 1680 RUNS. */
  private static CardIndex manyRuns(int gone) {
    CardIndex x = desk(PLAIN, 3, COPIES);
    for (int c = 0; c < 3; c++) for (int i = 0; i < 3; i++) x.act(c, 0, GET, 0, 0);
    for (int left = gone; left > 0; left -= 60) due("gone", x.explore(Math.min(60, left)), Math.min(60, left));
    return x;
  }

  private static void exploreJustAThousand() {
    CardIndex x = manyRuns(940);
    due("just a thousand", x.explore(60), 60);
    due("not one more", x.explore(1), FULL);
    due("not sixty more", x.explore(60), FULL);
    x.clear();
    due("nor behind clear()", x.explore(1), FULL);
    due("BAD is ahead of FULL", x.explore(0), BAD);
    due("BAD is ahead of FULL", x.explore(61), BAD);
    x = manyRuns(941);
    due("one above a thousand", x.explore(60), FULL);
    due("59 are left", x.explore(59), 59);
    due("none is left", x.explore(1), FULL);
    x = manyRuns(999);
    due("two are above", x.explore(2), FULL);
    due("one is not", x.explore(1), 1);
    due("none is left", x.explore(1), FULL);
    // Another object has its own thousand.
    due("another one", desk(PLAIN, 1, COPIES).explore(60), 1);
  }

  /** It is the RUNS there were that count, not most. */
  private static void exploreCountsRunsGoneThrough() {
    CardIndex x = manyRuns(900);
    x.clear();
    for (int i = 0; i < 40; i++) due("one run of nothing", x.explore(60), 1);
    due("900 and 41", x.explore(60), 1);
    due("941 and 60 are above", x.explore(60), FULL);
    due("941 and 59 are not", x.explore(59), 1);
    due("942 and 58", x.explore(58), 1);
    for (int i = 0; i < 3; i++) x.run();
    due("run() is none of them", x.explore(57), 1);
  }

  private static void exploreRefusedStays() {
    CardIndex x = manyRuns(990);
    long digest = x.digest();
    long[] explored = new long[5];
    for (int i = 0; i < 5; i++) explored[i] = x.explored(i);
    due("refused", x.explore(11), FULL);
    due("the run stays", x.digest(), digest);
    for (int i = 0; i < 5; i++) due("explored() stays", x.explored(i), explored[i]);
    due("it took nothing of what is left", x.explore(10), 10);
    x.baton(0, 0);
    due("refused behind a change", x.explore(1), FULL);
    due("no run by a refused one", x.count(3), NO);
  }

  private static void exploreNothing() {
    CardIndex x = new CardIndex();
    due("nothing: one run", x.explore(60), 1);
    int[] want = {1, 0, 0, 0, 1};
    for (int i = 0; i < 5; i++) due("nothing: explored " + i, x.explored(i), want[i]);
    due("nothing: as if run() was called", x.digest(), 7);
    x = desk(PLAIN, 1, MAP);
    x.act(0, 0, PUT, 0, 0);
    due("one clerk: one run", x.explore(1), 1);
    due("one clerk: no more", x.explored(0), 1);
  }

  private static void allOfThemOrOneLess() {
    // Two clerks with two acts of one step each: 6; with three and two: 10.
    CardIndex x = desk(PLAIN, 2, COPIES);
    for (int i = 0; i < 4; i++) x.act(i % 2, 0, GET, 0, 0);
    for (int most = 1; most <= 8; most++) {
      due("of six, " + most, x.explore(most), Math.min(6, most));
      due("of six, " + most + ": no more", x.explored(0), most >= 6 ? 1 : 0);
    }
    x.act(0, 0, GET, 0, 0);
    for (int most = 9; most <= 11; most++) {
      due("of ten, " + most, x.explore(most), Math.min(10, most));
      due("of ten, " + most + ": no more", x.explored(0), most >= 10 ? 1 : 0);
    }
  }

  /** COPIES on one tray, by the answers of GET it is seen who was first in the RUNS up to the most-th. */
  private static void leastOnesFirst() {
    // 0 PUTS (4 steps), 1 GETS: it may stand at five places, the latest first: behind, .., ahead.
    CardIndex x = desk(PLAIN, 2, COPIES);
    x.act(0, 0, PUT, 0, 5);
    x.act(1, 0, GET, 0, 0);
    for (int most = 1; most <= 5; most++) {
      due("so many", x.explore(most), most);
      // Behind GIVE and behind WRITE it sees the card.
      due("so many kinds of answers, " + most, x.explored(4), most <= 2 ? 1 : 2);
      due("more, " + most, x.explored(0), most == 5 ? 1 : 0);
    }
    due("five and no more", x.explore(60), 5);
    // Five clerks with one step each: 120.
    x = desk(PLAIN, 5, COPIES);
    for (int c = 0; c < 5; c++) x.act(c, 0, GET, 0, 0);
    due("sixty of 120", x.explore(60), 60);
    due("sixty of 120: more", x.explored(0), 0);
    // What THE BATON names does not matter to them, but to the RUN behind.
    x.baton(0, 4);
    due("with a baton", x.explore(60), 60);
    mark("with a baton", x, 0, 4, 0, 0, 0);
  }

  /** Each RUN has its throws and its patience anew; an ACT that gives up is a choice too. */
  private static void exploringPatienceAndThrowing() {
    CardIndex x = desk(PLAIN, 1, ONCE);
    x.act(0, 0, MAKE, 0, 0);
    x.throwing(0, 0, 1);
    for (int i = 0; i < 3; i++) {
      x.explore(5);
      told("throws in each", x, 0, 0, THREW, 0);
      due("one kind of answers", x.explored(4), 1);
    }
    x = desk(PLAIN, 2, ONCE);
    for (int c = 0; c < 2; c++) x.act(c, 0, MAKE, 0, 0);
    x.throwing(0, 0, 1);
    x.explore(60);
    due("who threw, and who made or found", x.explored(1) + x.explored(2) + x.explored(3), 0);
    x = deque(1, PLAIN, 2);
    x.act(0, 0, HEAD, 0, 0);
    x.act(1, 0, CLOSE, 0, 0);
    x.patience(0, 0, 2);
    // 0 is TIRED, or CLOSED.
    x.explore(60);
    due("all of them", x.explored(0), 1);
    due("TIRED or CLOSED", x.explored(4), 2);
    due("none is stuck", x.explored(1), 0);
    due("all fit", x.explored(2), 0);
  }

  // ---- promise 23

  /** (4): an answer or an OUTCOME, not how often it waited, nor the cards. */
  private static void exploringTellsApart() {
    CardIndex x = deque(8, PLAIN, 2);
    x.act(0, 0, HEAD, 0, 0);
    x.act(1, 0, LAST, 5, 0);
    int runs = x.explore(60);
    due("it waits, or not", runs > 1);
    due("but is answered alike", x.explored(4), 1);
    x = desk(PLAIN, 2, QUEUE);
    x.act(0, 0, PUT, 5, 0);
    x.act(1, 0, PUT, 6, 0);
    x.explore(60);
    due("the cards stand otherwise", x.explored(4), 1);
    due("and fit", x.explored(2), 0);
    // The same answer with another OUTCOME: POLL of none, and of 0.
    x = desk(PLAIN, 2, QUEUE);
    x.act(0, 0, PUT, 0, 0);
    x.act(1, 0, POLL, 0, 0);
    x.explore(60);
    due("0, or none", x.explored(4), 2);
    // The latest explore() alone counts.
    due("one of them", x.explore(1), 1);
    due("one kind of answers", x.explored(4), 1);
    // The answer of an ACT that is not the last one, all else being alike.
    x = desk(PLAIN, 2, COUNTER);
    x.act(0, 0, SUM, 0, 0);
    x.act(0, 0, ADD, 0, 0);
    x.act(1, 0, ADD, 3, 0);
    x.explore(60);
    due("SUM of 0", x.explored(4), 1);
    x = desk(PLAIN, 2, COPIES);
    x.act(0, 0, COPIES_ALL, 0, 0);
    x.act(1, 0, PUT, 0, 3);
    due("ALL at five places", x.explore(60), 5);
    due("ALL of 0, or of 3", x.explored(4), 2);
  }

  /**
   * 32 GETS, then 8 PUTS of 1, 2 .. 8: the last GET comes to the 33 places among their 32 steps,
   * and has one of nine answers there; in the RUNS behind them the GET ahead of it still has none.
   */
  private static void exploringFortyActs() {
    int[] kinds = {1, 1, 1, 2, 2, 2, 2, 3};
    CardIndex x = desk(PLAIN, 5, COPIES);
    for (int c = 0; c < 4; c++) for (int i = 0; i < 8; i++) x.act(c, 0, GET, 0, 0);
    for (int i = 0; i < 8; i++) x.act(4, 0, PUT, 0, i + 1);
    for (int most = 1; most <= 8; most++) {
      x.explore(most);
      due("forty acts, " + most + " runs", x.explored(4), kinds[most - 1]);
    }
    due("forty acts", x.explore(33), 33);
    due("forty acts, nine answers", x.explored(4), 9);
    due("forty acts, sixty runs", x.explore(60), 60);
    due("forty acts, nine answers still", x.explored(4), 9);
    due("forty acts are NONE", x.explored(3), 60);
  }

  /**
   * ADDS of 1 on one KEY, which are done one after the other: an ACT that comes later than in
   * another RUN answers more, so that no two RUNS are alike.
   */
  private static void exploringSixtyKinds() {
    for (int acts = 1; acts <= 8; acts += 7) {
      CardIndex x = desk(PLAIN, 5, MAP);
      for (int c = 0; c < 5; c++) for (int i = 0; i < acts; i++) x.act(c, 0, MAP_ADD, 9, 1);
      for (int most = 60; most >= 10; most -= 10) {
        due("ADDS", x.explore(most), most);
        int[] want = {0, 0, 0, acts == 1 ? 0 : most, most};
        for (int i = 0; i < 5; i++) due("ADDS: explored " + i, x.explored(i), want[i]);
      }
    }
    CardIndex x = desk(PLAIN, 4, MAP);
    for (int c = 0; c < 4; c++) x.act(c, 0, MAP_ADD, 9, 1);
    due("four ADDS", x.explore(60), 24);
    due("four ADDS: no more", x.explored(0), 1);
    due("four ADDS: none alike", x.explored(4), 24);
  }

  private static void exploringStuckOnes() {
    CardIndex x = deque(8, PLAIN, 2);
    x.act(0, 0, HEAD, 0, 0);
    x.act(1, 0, TAIL, 0, 0);
    int runs = x.explore(60);
    due("all are stuck", x.explored(1), runs);
    due("all are alike", x.explored(4), 1);
    due("none is misfit", x.explored(2), 0);
    due("the run behind", x.count(5), 2);
    x.patience(0, 0, 1);
    x.patience(1, 0, 1);
    runs = x.explore(60);
    due("TIRED has ended", x.explored(1) < runs);
    x = new CardIndex();
    x.tray(MAP, 1, 0);
    x.clerk();
    x.explore(1);
    due("none is stuck", x.explored(1), 0);
  }

  /** "(in explore() 300)": all by HEADS that wait, LASTS and FIRSTS of 5, found by drawing. */
  private static void exploringJustThreeHundred() {
    CardIndex x = deque(3, EARLY, 4);
    int[][] acts = {
      {0, HEAD}, {1, HEAD}, {2, HEAD}, {1, LAST}, {3, LAST}, {0, LAST}, {0, FIRST}, {1, LAST}, {1, TAIL}, {3, LAST},
      {0, LAST}};
    for (int[] act : acts) x.act(act[0], 0, act[1], 5, 0);
    due("just 300", x.explore(60), 60);
    int[] want = {0, 6, 15, 0, 2};
    for (int i = 0; i < 5; i++) due("just 300: explored " + i, x.explored(i), want[i]);
    // Those of which the 301st TRY would be the last one are given up.
    x = deque(2, EARLY, 4);
    acts = new int[][] {
      {0, TAIL}, {1, TAIL}, {2, HEAD}, {0, FIRST}, {3, FIRST}, {0, LAST}, {1, FIRST}, {0, LAST}, {3, TAIL}, {3, LAST},
      {3, LAST}};
    for (int[] act : acts) x.act(act[0], 0, act[1], 5, 0);
    due("301", x.explore(60), 60);
    int[] due = {0, 40, 0, 20, 2};
    for (int i = 0; i < 5; i++) due("301: explored " + i, x.explored(i), due[i]);
  }

  private static void exploringThirteenActs() {
    for (int acts = 12; acts <= 13; acts++) {
      CardIndex x = desk(PLAIN, 2, COPIES, COPIES);
      for (int i = 0; i < acts; i++) x.act(i / 8, 1, GET, 0, 0);
      int runs = x.explore(20);
      due(acts + " acts: NONE", x.explored(3), acts == 13 ? runs : 0);
      due(acts + " acts: no 0", x.explored(2), 0);
      due(acts + " acts: none stuck", x.explored(1), 0);
    }
    // A tray behind it that is told 0 in some RUNS takes these over.
    CardIndex x = desk(BARE, 2, COPIES, MAP);
    for (int i = 0; i < 7; i++) x.act(0, 0, GET, 0, 0);
    for (int i = 0; i < 6; i++) x.act(1, 0, GET, 0, 0);
    x.act(0, 1, MAP_ADD, 0, 1);
    x.act(1, 1, MAP_ADD, 0, 1);
    int runs = x.explore(60);
    int misfits = x.explored(2);
    due("all are NONE, or told 0", misfits + x.explored(3), runs);
    due("some cannot lose an ADD", x.explored(3) > 0);
  }

  private static void exploredNumbers() {
    CardIndex x = desk(PLAIN, 2, DEQUE);
    bad("explored, before any", n -> x.explored(n), LOW, -1, 5, 6, HIGH);
    for (int i = 0; i < 5; i++) due("explored, before any", x.explored(i), 0);
    x.run();
    for (int i = 0; i < 5; i++) due("explored, behind run()", x.explored(i), 0);
    x.act(0, 0, HEAD, 0, 0);
    x.explore(3);
    bad("explored", n -> x.explored(n), LOW, -1, 5, 6, HIGH);
    int[] stuck = {1, 1, 0, 0, 1};
    for (int i = 0; i < 5; i++) due("explored", x.explored(i), stuck[i]);
    x.act(1, 0, LAST, 0, 0);
    for (int i = 0; i < 5; i++) due("explored, behind a change", x.explored(i), stuck[i]);
    x.clear();
    for (int i = 0; i < 5; i++) due("explored, behind clear()", x.explored(i), stuck[i]);
    x.explore(60);
    int[] nothing = {1, 0, 0, 0, 1};
    for (int i = 0; i < 5; i++) due("explored, the latest", x.explored(i), nothing[i]);
  }
}
