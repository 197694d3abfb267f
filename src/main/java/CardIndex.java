import java.util.Arrays;

/** A card index touched by many clerks; ../shared/DOC.md says what each call promises. */
public final class CardIndex {
  public static final int NONE = -1, BAD = -2, NO = -3, FULL = -4;

  private static final int MAP = 0, QUEUE = 1, DEQUE = 2, COUNTER = 3, COPIES = 4, ONCE = 5;
  private static final int BARE = 1, EARLY = 2;

  private static final int PUT = 0, GET = 1, OUT = 2, MAP_ADD = 3, COPIES_ALL = 3;
  private static final int POLL = 1;
  private static final int LAST = 0, FIRST = 1, HEAD = 2, CLOSE = 4;
  private static final int SUM = 1;

  private static final int TAKE = 0, GIVE = 1, READ = 2, WRITE = 3, LOOK = 4, MARK = 5, MAKE = 6;
  private static final int[] CHANGES = {TAKE, READ, WRITE, GIVE};
  private static final int[] CHANGES_EARLY = {TAKE, READ, GIVE, WRITE};
  private static final int[] READS = {TAKE, READ, GIVE};
  private static final int[] READS_ALONE = {READ};
  private static final int[] LOOKS = {TAKE, LOOK, WRITE, GIVE};
  private static final int[] LOOKS_EARLY = {TAKE, LOOK, GIVE, WRITE};
  private static final int[] SUMS = {TAKE, TAKE, TAKE, TAKE, READ, GIVE, GIVE, GIVE, GIVE};
  private static final int[] MAKES = {TAKE, LOOK, MARK, GIVE, MAKE, TAKE, WRITE, GIVE};
  private static final int[] MAKES_EARLY = {TAKE, LOOK, MARK, GIVE, MAKE, TAKE, GIVE, WRITE};
  private static final int[] FINDS = {TAKE, LOOK, GIVE};

  private static final int WELL = 0, NONE_THERE = 1, WAS_CLOSED = 2, THREW = 3, TIRED = 4;
  private static final int NOT_THROUGH = 5, NOT_BEGUN = 6;

  private static final int MOST_TRAYS = 6, MOST_CLERKS = 5, MOST_ACTS = 8, KEYS = 32, SHARES = 4;
  private static final int MONITORS = 4, STRIPES = 4, STRIPE_CARDS = 8, CELLS = 64;
  private static final int MOST_STEPS = 600, MARK_NUMBERS = 4;
  private static final int ALL_ACTS = 40, ALL_MARKS = 80;
  private static final int CHECKED_ACTS = 12, TRIES = 3000, TRIES_EXPLORING = 300, GAVE_UP = -5;
  private static final int MOST_RUNS = 60, MOST_RUNS_EVER = 1000, EXPLORED_NUMBERS = 5;
  private static final int ALL_ENDED = 0, SOME_STUCK = 1, CUT_OFF = 2;

  private final Desk desk;
  private final Run latest;
  private final Checker checker;
  private final Explorer explorer;
  private final int[] choices;
  private boolean ran;
  private int latestTries;
  private int askedFor;

  public CardIndex() {
    desk = new Desk();
    latest = new Run(desk);
    checker = new Checker(desk, latest);
    explorer = new Explorer(desk, latest, checker);
    choices = new int[MOST_STEPS];
    Arrays.fill(choices, NONE);
  }

  public int tray(int kind, int a, int fault) {
    if (kind < MAP || kind > ONCE || fault < 0 || fault > EARLY) return BAD;
    if (kind == DEQUE && (a < 1 || a > 8)) return BAD;
    if (desk.trayCount >= MOST_TRAYS) return FULL;
    ran = false;
    return desk.addTray(kind, a, fault);
  }

  public int clerk() {
    if (desk.clerkCount >= MOST_CLERKS) return FULL;
    ran = false;
    return desk.addClerk();
  }

  public int act(int clerk, int tray, int op, int a, int b) {
    if (!desk.hasClerk(clerk) || !desk.hasTray(tray)) return BAD;
    if (!desk.trays[tray].takes(op, a)) return BAD;
    if (desk.clerks[clerk].many >= MOST_ACTS) return FULL;
    ran = false;
    return desk.clerks[clerk].addAct(tray, op, a, b);
  }

  public int baton(int i, int clerk) {
    if (i < 0 || i >= MOST_STEPS || clerk < NONE || clerk >= MOST_CLERKS) return BAD;
    ran = false;
    choices[i] = clerk;
    return 1;
  }

  public int patience(int clerk, int act, int n) {
    if (!desk.hasAct(clerk, act) || n < 0 || n > 100) return BAD;
    ran = false;
    desk.clerks[clerk].acts[act].patience = n;
    return 1;
  }

  public int throwing(int tray, int key, int n) {
    if (!desk.hasTray(tray) || desk.trays[tray].kind != ONCE) return BAD;
    if (key < 0 || key >= KEYS || n < 0 || n > 9) return BAD;
    ran = false;
    desk.trays[tray].throwsTold[key] = n;
    return 1;
  }

  public int run() {
    latest.goThrough(choices);
    ran = true;
    return latest.told;
  }

  public int answer(int clerk, int act) {
    if (!desk.hasAct(clerk, act) || !ran) return 0;
    return desk.clerks[clerk].acts[act].answer;
  }

  public int outcome(int clerk, int act) {
    if (!desk.hasAct(clerk, act)) return BAD;
    if (!ran) return NO;
    return desk.clerks[clerk].acts[act].outcome;
  }

  public int waited(int clerk, int act) {
    if (!desk.hasAct(clerk, act)) return BAD;
    if (!ran) return NO;
    return desk.clerks[clerk].acts[act].waitings;
  }

  public int mark(int i, int what) {
    if (i < 0 || what < 0 || what >= MARK_NUMBERS) return BAD;
    if (!ran) return NO;
    if (i >= latest.markCount) return NONE;
    return latest.marks[i * MARK_NUMBERS + what];
  }

  public int count(int what) {
    if (what < 0 || what > 5) return BAD;
    if (what > 2 && !ran) return NO;
    switch (what) {
      case 0: return desk.trayCount;
      case 1: return desk.clerkCount;
      case 2: return desk.countActs();
      case 3: return latest.done;
      case 4: return latest.markCount;
      default: return desk.countWaiting();
    }
  }

  public int size(int tray) {
    if (!desk.hasTray(tray)) return BAD;
    if (!ran) return NO;
    return desk.trays[tray].countCards();
  }

  public int card(int tray, int i, int what) {
    if (!desk.hasTray(tray) || i < 0 || what < 0 || what > 1) return BAD;
    if (!ran) return NO;
    Tray asked = desk.trays[tray];
    if (i >= asked.countCards()) return NONE;
    asked.listKeys();
    askedFor = what == 0 ? asked.keyAt(i) : asked.valueAt(i);
    return 1;
  }

  public int asked() {
    return askedFor;
  }

  public int about(int tray, int what) {
    if (!desk.hasTray(tray) || what < 0 || what > 5) return BAD;
    Tray asked = desk.trays[tray];
    int kind = what <= 2 ? MAP : what == 3 ? DEQUE : ONCE;
    if (asked.kind != kind) return BAD;
    if (!ran) return NO;
    switch (what) {
      case 0: return asked.countGrowths();
      case 1: return asked.countMoved();
      case 2: return asked.countRows();
      case 3: return asked.cards.closings > 0 ? 1 : 0;
      case 4: return asked.makings;
      default: return asked.threw;
    }
  }

  public int fits(int tray) {
    if (!desk.hasTray(tray)) return BAD;
    if (!ran) return NO;
    return check(tray);
  }

  public int order(int tray, int i) {
    if (!desk.hasTray(tray)) return BAD;
    if (!ran) return NO;
    if (check(tray) != 1 || i < 0 || i >= checker.many) return NONE;
    return checker.actAt(i);
  }

  public int tries() {
    return latestTries;
  }

  public int first() {
    if (!ran) return NO;
    for (int tray = 0; tray < desk.trayCount; tray++) {
      if (check(tray) == 0) return tray;
    }
    return NONE;
  }

  public int explore(int most) {
    if (most < 1 || most > MOST_RUNS) return BAD;
    if (explorer.runsEver + most > MOST_RUNS_EVER) return FULL;
    explorer.begin();
    boolean more = true;
    int runs = 0;
    while (runs < most && more) {
      latest.goThrough(explorer.plan);
      explorer.judgeTrays();
      explorer.seeAnswers();
      more = explorer.planNext();
      runs++;
    }
    explorer.end(runs, more);
    latest.goThrough(choices);
    ran = true;
    return runs;
  }

  public int explored(int what) {
    if (what < 0 || what >= EXPLORED_NUMBERS) return BAD;
    return explorer.found[what];
  }

  public long digest() {
    if (!ran) return 0;
    long h = 7;
    for (int c = 0; c < desk.clerkCount; c++) h = desk.clerks[c].digestActs(h);
    for (int t = 0; t < desk.trayCount; t++) h = desk.trays[t].digestCards(h);
    return h;
  }

  public int clear() {
    int acts = desk.countActs();
    desk.trayCount = 0;
    desk.clerkCount = 0;
    Arrays.fill(choices, NONE);
    ran = false;
    return acts;
  }

  /** Where NONE is told nothing was tried, so tries() keeps what it told. */
  private int check(int tray) {
    int told = checker.judge(tray, TRIES);
    if (told != NONE) latestTries = checker.made;
    return told;
  }

  /** An ACT: what it is to do, and how far the latest RUN brought it. */
  private static final class Act {
    final int clerk;
    final int number;
    int tray;
    int op;
    int a;
    int b;
    int patience;
    int[] steps;
    int monitor;
    int place;
    boolean waits;
    int waitsSince;
    int waitings;
    int noted;
    int coming;
    int outcome;
    int answer;
    int begin;
    int end;

    Act(int clerk, int number) {
      this.clerk = clerk;
      this.number = number;
      steps = READS_ALONE;
      outcome = NOT_BEGUN;
    }

    void beginAnew(int[] newSteps, int newMonitor) {
      steps = newSteps;
      monitor = newMonitor;
      place = 0;
      waits = false;
      waitings = 0;
      noted = 0;
      coming = WELL;
      outcome = NOT_BEGUN;
      answer = 0;
    }

    void note(boolean isThere, int value) {
      coming = isThere ? WELL : NONE_THERE;
      noted = isThere ? value : 0;
    }

    int nextStep() {
      return place >= 0 && place < steps.length ? steps[place] : NONE;
    }

    /** A SUM's TAKES and GIVES go over all MONITORS, its READ standing between them. */
    int nextMonitor() {
      if (monitor != NONE) return monitor;
      return (place < MONITORS ? place : place - MONITORS - 1) & 3;
    }

    int ownMaking() {
      return 1000 * (clerk + 1) + number;
    }

    boolean hasEndedUntired() {
      return outcome < TIRED;
    }
  }

  /** A CLERK, its ACTS, and the CARDS that its ACT on a COPIES TRAY noted. */
  private static final class Clerk {
    final int number;
    final Act[] acts = new Act[MOST_ACTS];
    final Cards copy = new Cards();
    int many;
    int at;

    Clerk(int number) {
      this.number = number;
      for (int i = 0; i < MOST_ACTS; i++) acts[i] = new Act(number, i);
    }

    int addAct(int tray, int op, int a, int b) {
      if (many >= MOST_ACTS) return FULL;
      Act act = acts[many];
      act.tray = tray;
      act.op = op;
      act.a = a;
      act.b = b;
      act.patience = 0;
      many++;
      return many - 1;
    }

    Act current() {
      return at < many && at < MOST_ACTS ? acts[at] : null;
    }

    Act waiting() {
      Act act = current();
      return act != null && act.waits ? act : null;
    }

    long digestActs(long start) {
      long h = start;
      for (int i = 0; i < many && i < MOST_ACTS; i++) {
        h = 31 * h + acts[i].outcome;
        h = 31 * h + acts[i].answer;
        h = 31 * h + acts[i].waitings;
      }
      return h;
    }
  }

  /** All TRAYS and CLERKS, made once and used again. */
  private static final class Desk {
    final Tray[] trays = new Tray[MOST_TRAYS];
    final Clerk[] clerks = new Clerk[MOST_CLERKS];
    int trayCount;
    int clerkCount;

    Desk() {
      for (int i = 0; i < MOST_TRAYS; i++) trays[i] = new Tray();
      for (int i = 0; i < MOST_CLERKS; i++) clerks[i] = new Clerk(i);
    }

    boolean hasTray(int tray) {
      return tray >= 0 && tray < trayCount && tray < MOST_TRAYS;
    }

    boolean hasClerk(int clerk) {
      return clerk >= 0 && clerk < clerkCount && clerk < MOST_CLERKS;
    }

    boolean hasAct(int clerk, int act) {
      return hasClerk(clerk) && act >= 0 && act < clerks[clerk].many && act < MOST_ACTS;
    }

    int addTray(int kind, int a, int fault) {
      if (trayCount >= MOST_TRAYS) return FULL;
      trays[trayCount].become(kind, a, fault);
      trayCount++;
      return trayCount - 1;
    }

    int addClerk() {
      if (clerkCount >= MOST_CLERKS) return FULL;
      clerks[clerkCount].many = 0;
      clerkCount++;
      return clerkCount - 1;
    }

    int countActs() {
      int acts = 0;
      for (int c = 0; c < clerkCount; c++) acts += clerks[c].many;
      return acts;
    }

    int countWaiting() {
      int waiting = 0;
      for (int c = 0; c < clerkCount; c++) {
        if (clerks[c].waiting() != null) waiting++;
      }
      return waiting;
    }

    void beginAnew() {
      for (int t = 0; t < trayCount; t++) trays[t].beginAnew();
      for (int c = 0; c < clerkCount; c++) {
        Clerk clerk = clerks[c];
        clerk.at = 0;
        for (int i = 0; i < clerk.many && i < MOST_ACTS; i++) beginAct(clerk.acts[i]);
      }
    }

    private void beginAct(Act act) {
      if (!hasTray(act.tray)) return;
      Tray tray = trays[act.tray];
      act.beginAnew(tray.stepsOf(act.op), tray.monitorOf(act));
    }

    void wake(int tray) {
      for (int c = 0; c < clerkCount; c++) {
        Act act = clerks[c].waiting();
        if (act != null && act.tray == tray) {
          act.waits = false;
          act.place = 0;
        }
      }
    }
  }

  /** What a TRAY has: VALUES by KEY or by SHARE, or those of a QUEUE or DEQUE in a ring. */
  private static final class Cards {
    final int[] cells = new int[CELLS];
    int held;
    int start;
    int length;
    // A number, not a flag: THE CHECKER takes back one of several CLOSES.
    int closings;

    void empty() {
      Arrays.fill(cells, 0);
      held = 0;
      start = 0;
      length = 0;
      closings = 0;
    }

    void copyKeysOf(Cards other) {
      held = other.held;
      System.arraycopy(other.cells, 0, cells, 0, KEYS);
    }

    boolean has(int key) {
      return (held >>> (key & 31) & 1) != 0;
    }

    int valueOf(int key) {
      return cells[key & 31];
    }

    void put(int key, int value) {
      held |= 1 << (key & 31);
      cells[key & 31] = value;
    }

    void takeOut(int key) {
      held &= ~(1 << (key & 31));
    }

    int valueAtPlace(int place) {
      return cells[(start + place) & (CELLS - 1)];
    }

    int headValue() {
      return cells[start & (CELLS - 1)];
    }

    int tailValue() {
      return cells[(start + length - 1) & (CELLS - 1)];
    }

    // At most 40 ACTS put a CARD, so the ring of 64 cells is never full.
    void putFirst(int value) {
      start = (start - 1) & (CELLS - 1);
      length++;
      cells[start & (CELLS - 1)] = value;
    }

    void putLast(int value) {
      cells[(start + length) & (CELLS - 1)] = value;
      length++;
    }

    void takeFirst() {
      if (length <= 0) return;
      start = (start + 1) & (CELLS - 1);
      length--;
    }

    void takeLast() {
      if (length > 0) length--;
    }

    int sumOfShares() {
      return cells[0] + cells[1] + cells[2] + cells[3];
    }

    int weightedSum() {
      int sum = 0;
      for (int key = 0; key < KEYS; key++) {
        if (has(key)) sum += (key + 1) * cells[key];
      }
      return sum;
    }

    boolean hasSame(int kind, Cards other) {
      switch (kind) {
        case QUEUE:
        case DEQUE: return hasSameRow(other);
        case COUNTER: return sumOfShares() == other.sumOfShares();
        default: return hasSameKeys(other);
      }
    }

    private boolean hasSameRow(Cards other) {
      if (length != other.length || (closings > 0) != (other.closings > 0)) return false;
      for (int i = 0; i < length; i++) {
        if (valueAtPlace(i) != other.valueAtPlace(i)) return false;
      }
      return true;
    }

    private boolean hasSameKeys(Cards other) {
      if (held != other.held) return false;
      for (int key = 0; key < KEYS; key++) {
        if (has(key) && cells[key] != other.cells[key]) return false;
      }
      return true;
    }
  }

  /** The ROWS of a MAP's STRIPE; a CARD stands here as its KEY / 4, its VALUE in the TRAY's Cards. */
  private static final class Stripe {
    // No STRIPE comes to more than 4 ROWS, as it has 8 CARDS at most; the rest is to spare.
    // The numbers of ROWS are powers of 2, so that a mask gives the remainder.
    int[] heads = new int[STRIPE_CARDS];
    int[] newHeads = new int[STRIPE_CARDS];
    final int[] below = new int[STRIPE_CARDS];
    int rows;
    int cards;
    boolean grows;
    int rowsMoved;
    int growths;
    int cardsMoved;

    void empty() {
      Arrays.fill(heads, NONE);
      Arrays.fill(newHeads, NONE);
      rows = 1;
      cards = 0;
      grows = false;
      rowsMoved = 0;
      growths = 0;
      cardsMoved = 0;
    }

    int rowsNow() {
      return grows ? 2 * rows : rows;
    }

    void add(int card) {
      int[] row = grows ? newHeads : heads;
      int at = card & ((grows ? 2 * rows : rows) - 1) & 7;
      below[card & 7] = row[at];
      row[at] = card;
      cards++;
      if (grows || cards <= 2 * rows || 2 * rows > STRIPE_CARDS) return;
      grows = true;
      growths++;
      rowsMoved = 0;
    }

    /** The CARD may stand in an old ROW or in a new one. */
    void takeOut(int card) {
      for (int side = 1; side <= 2; side++) {
        int[] row = side == 1 ? heads : newHeads;
        int at = card & (side * rows - 1) & 7;
        int above = NONE;
        int here = row[at];
        for (int i = 0; i < STRIPE_CARDS && here != NONE && here != card; i++) {
          above = here;
          here = below[here & 7];
        }
        if (here != card) continue;
        if (above == NONE) row[at] = below[card & 7];
        else below[above & 7] = below[card & 7];
        cards--;
        return;
      }
    }

    void moveNextRow() {
      if (!grows) return;
      int card = heads[rowsMoved & 7];
      for (int i = 0; i < STRIPE_CARDS && card != NONE; i++) {
        int next = below[card & 7];
        int at = card & (2 * rows - 1) & 7;
        below[card & 7] = newHeads[at];
        newHeads[at] = card;
        cardsMoved++;
        card = next;
      }
      heads[rowsMoved & 7] = NONE;
      rowsMoved++;
      if (rowsMoved >= rows) endGrowing();
    }

    private void endGrowing() {
      int[] moved = heads;
      heads = newHeads;
      newHeads = moved;
      rows = 2 * rows;
      grows = false;
      rowsMoved = 0;
    }

    /** A moved ROW is empty, so that going over all old ROWS lists only those not moved. */
    int list(int stripe, int[] keys, int from) {
      int at = listRows(heads, stripe, keys, from);
      return listRows(newHeads, stripe, keys, at);
    }

    private int listRows(int[] row, int stripe, int[] keys, int from) {
      int at = from;
      for (int r = 0; r < STRIPE_CARDS; r++) {
        int card = row[r];
        for (int i = 0; i < STRIPE_CARDS && card != NONE && at < keys.length; i++) {
          keys[at] = STRIPES * card + stripe;
          at++;
          card = below[card & 7];
        }
      }
      return at;
    }
  }

  /** A TRAY: its KIND and FAULT, and what it has in the latest RUN. */
  private static final class Tray {
    final Cards cards = new Cards();
    final Stripe[] stripes = new Stripe[STRIPES];
    final int[] owners = new int[MONITORS];
    final int[] throwsTold = new int[KEYS];
    final int[] throwsLeft = new int[KEYS];
    final int[] listed = new int[KEYS];
    int kind;
    int limit;
    int fault;
    int marked;
    int makings;
    int threw;

    Tray() {
      for (int i = 0; i < STRIPES; i++) stripes[i] = new Stripe();
    }

    void become(int newKind, int a, int newFault) {
      kind = newKind;
      limit = a;
      fault = newFault;
      Arrays.fill(throwsTold, 0);
    }

    boolean takes(int op, int a) {
      int ops = kind == DEQUE ? 5 : kind == ONCE ? 1 : kind == QUEUE || kind == COUNTER ? 2 : 4;
      if (op < 0 || op >= ops) return false;
      boolean byKey = kind == MAP || kind == ONCE || kind == COPIES && op != COPIES_ALL;
      return !byKey || a >= 0 && a < KEYS;
    }

    void beginAnew() {
      cards.empty();
      Arrays.fill(owners, NONE);
      marked = 0;
      makings = 0;
      threw = 0;
      if (kind == ONCE) System.arraycopy(throwsTold, 0, throwsLeft, 0, KEYS);
      if (kind != MAP) return;
      for (int i = 0; i < STRIPES; i++) stripes[i].empty();
    }

    int[] stepsOf(int op) {
      boolean early = fault == EARLY;
      switch (kind) {
        case MAP: return op == GET ? READS : early ? CHANGES_EARLY : CHANGES;
        case DEQUE: return early ? LOOKS_EARLY : LOOKS;
        case COUNTER: return op == SUM ? SUMS : early ? CHANGES_EARLY : CHANGES;
        case COPIES: return op == GET || op == COPIES_ALL ? READS_ALONE : early ? CHANGES_EARLY : CHANGES;
        case ONCE: return early ? MAKES_EARLY : MAKES;
        default: return early ? CHANGES_EARLY : CHANGES;
      }
    }

    int monitorOf(Act act) {
      switch (kind) {
        case MAP: return act.a & 3;
        case QUEUE: return act.op == PUT ? 1 : 0;
        case COUNTER: return act.op == SUM ? NONE : act.clerk & 3;
        default: return 0;
      }
    }

    boolean isFreeFor(int clerk, int monitor) {
      int owner = owners[monitor & 3];
      return owner == NONE || owner == clerk;
    }

    void take(int clerk, int monitor) {
      if (fault != BARE) owners[monitor & 3] = clerk;
    }

    void give(int clerk, int monitor) {
      if (owners[monitor & 3] == clerk) owners[monitor & 3] = NONE;
    }

    void read(Act act, Clerk clerk) {
      switch (kind) {
        case MAP:
          stripes[act.a & 3].moveNextRow();
          act.note(cards.has(act.a), cards.valueOf(act.a));
          if (act.op == MAP_ADD) act.coming = WELL;
          break;
        case QUEUE:
          if (act.op == POLL) act.note(cards.length > 0, cards.headValue());
          else act.note(true, act.a);
          break;
        case COUNTER:
          act.note(true, act.op == SUM ? cards.sumOfShares() : cards.valueOf(act.monitor));
          break;
        default:
          if (act.op == COPIES_ALL) act.note(true, cards.weightedSum());
          else act.note(cards.has(act.a), cards.valueOf(act.a));
          if (act.op != COPIES_ALL && act.op != GET) clerk.copy.copyKeysOf(cards);
          break;
      }
    }

    /** Whether the ACT must WAIT. */
    boolean look(Act act) {
      return kind == ONCE ? lookForValue(act) : lookAtEnds(act);
    }

    private boolean lookForValue(Act act) {
      act.note(true, 0);
      if (cards.has(act.a)) {
        act.noted = cards.valueOf(act.a);
        act.steps = FINDS;
        return false;
      }
      return (marked >>> (act.a & 31) & 1) != 0;
    }

    private boolean lookAtEnds(Act act) {
      act.note(true, 0);
      if (act.op == CLOSE) return false;
      boolean puts = act.op == LAST || act.op == FIRST;
      if (!puts && cards.length > 0) {
        act.noted = act.op == HEAD ? cards.headValue() : cards.tailValue();
        return false;
      }
      if (cards.closings > 0) {
        act.coming = WAS_CLOSED;
        return false;
      }
      if (puts) act.noted = act.a;
      return !puts || cards.length >= limit;
    }

    void markKey(int key) {
      marked |= 1 << (key & 31);
    }

    void make(Act act) {
      makings++;
      if (throwsLeft[act.a & 31] <= 0) return;
      throwsLeft[act.a & 31]--;
      threw++;
      act.coming = THREW;
    }

    void write(Act act, Clerk clerk) {
      switch (kind) {
        case MAP:
          writeMap(act);
          break;
        case QUEUE:
          if (act.op == PUT) cards.putLast(act.a);
          else if (act.coming == WELL) cards.takeFirst();
          break;
        case DEQUE:
          if (act.coming != WAS_CLOSED) writeDeque(act);
          break;
        case COUNTER:
          act.noted += act.a;
          cards.put(act.monitor, act.noted);
          break;
        case COPIES:
          cards.copyKeysOf(clerk.copy);
          if (act.op == PUT) cards.put(act.a, act.b);
          else cards.takeOut(act.a);
          break;
        default:
          writeOnce(act);
          break;
      }
    }

    private void writeMap(Act act) {
      Stripe stripe = stripes[act.a & 3];
      int card = act.a >> 2 & 7;
      if (act.op == OUT) {
        if (cards.has(act.a)) stripe.takeOut(card);
        cards.takeOut(act.a);
        return;
      }
      if (act.op == MAP_ADD) act.noted += act.b;
      if (!cards.has(act.a)) stripe.add(card);
      cards.put(act.a, act.op == PUT ? act.b : act.noted);
    }

    private void writeDeque(Act act) {
      switch (act.op) {
        case LAST: cards.putLast(act.a); break;
        case FIRST: cards.putFirst(act.a); break;
        case HEAD: cards.takeFirst(); break;
        case CLOSE: cards.closings++; break;
        default: cards.takeLast(); break;
      }
    }

    private void writeOnce(Act act) {
      marked &= ~(1 << (act.a & 31));
      if (act.coming == THREW) return;
      act.noted = act.ownMaking();
      cards.put(act.a, act.noted);
    }

    int countCards() {
      if (kind == COUNTER) return SHARES;
      return kind == QUEUE || kind == DEQUE ? cards.length : Integer.bitCount(cards.held);
    }

    /** To be called ahead of keyAt() and valueAt(). */
    void listKeys() {
      if (kind == MAP) {
        int at = 0;
        for (int s = 0; s < STRIPES; s++) at = stripes[s].list(s, listed, at);
        return;
      }
      int at = 0;
      for (int key = 0; key < KEYS; key++) {
        if (cards.has(key)) {
          listed[at & 31] = key;
          at++;
        }
      }
    }

    int keyAt(int i) {
      return kind == QUEUE || kind == DEQUE || kind == COUNTER ? i : listed[i & 31];
    }

    int valueAt(int i) {
      return kind == QUEUE || kind == DEQUE ? cards.valueAtPlace(i) : cards.valueOf(keyAt(i));
    }

    long digestCards(long start) {
      int many = countCards();
      long h = 31 * start + many;
      listKeys();
      for (int i = 0; i < many; i++) {
        h = 31 * h + keyAt(i);
        h = 31 * h + valueAt(i);
      }
      return h;
    }

    int countGrowths() {
      int growths = 0;
      for (int i = 0; i < STRIPES; i++) growths += stripes[i].growths;
      return growths;
    }

    int countMoved() {
      int moved = 0;
      for (int i = 0; i < STRIPES; i++) moved += stripes[i].cardsMoved;
      return moved;
    }

    int countRows() {
      int rows = 0;
      for (int i = 0; i < STRIPES; i++) rows += stripes[i].rowsNow();
      return rows;
    }
  }

  /** A RUN: who did each STEP, who could have, and the MARKS. */
  private static final class Run {
    final Desk desk;
    final int[] marks = new int[ALL_MARKS * MARK_NUMBERS];
    final int[] chosen = new int[MOST_STEPS];
    final int[] ables = new int[MOST_STEPS];
    int markCount;
    int done;
    int told;

    Run(Desk desk) {
      this.desk = desk;
    }

    void goThrough(int[] choices) {
      desk.beginAnew();
      markCount = 0;
      int able = findAble(0);
      int step = 0;
      while (step < MOST_STEPS && able != 0) {
        int clerk = choose(step < choices.length ? choices[step] : NONE, able);
        ables[step] = able;
        chosen[step] = clerk;
        doStep(desk.clerks[clerk], step);
        step++;
        able = findAble(step);
      }
      done = step;
      told = able != 0 ? CUT_OFF : allEnded() ? ALL_ENDED : SOME_STUCK;
    }

    private int findAble(int step) {
      int able = 0;
      for (int c = 0; c < desk.clerkCount; c++) {
        if (isAble(desk.clerks[c], step)) able |= 1 << c;
      }
      return able;
    }

    private boolean isAble(Clerk clerk, int step) {
      Act act = clerk.current();
      if (act == null) return false;
      if (act.waits) return act.patience > 0 && step - act.waitsSince >= act.patience;
      if (act.nextStep() != TAKE || !desk.hasTray(act.tray)) return true;
      return desk.trays[act.tray].isFreeFor(clerk.number, act.nextMonitor());
    }

    private static int choose(int named, int able) {
      if (named >= 0 && named < MOST_CLERKS && (able >>> named & 1) != 0) return named;
      for (int c = 0; c < MOST_CLERKS; c++) {
        if ((able >>> c & 1) != 0) return c;
      }
      return 0;
    }

    private boolean allEnded() {
      for (int c = 0; c < desk.clerkCount; c++) {
        if (desk.clerks[c].current() != null) return false;
      }
      return true;
    }

    private void doStep(Clerk clerk, int step) {
      Act act = clerk.current();
      if (act == null || !desk.hasTray(act.tray)) return;
      if (act.outcome == NOT_BEGUN) {
        act.outcome = NOT_THROUGH;
        act.begin = step;
        addMark(act, 0, step);
      }
      if (act.waits) {
        endAct(clerk, act, TIRED, step);
        return;
      }
      goOn(clerk, act, step);
      if (act.place >= act.steps.length) endAct(clerk, act, act.coming, step);
    }

    private void goOn(Clerk clerk, Act act, int step) {
      Tray tray = desk.trays[act.tray];
      switch (act.nextStep()) {
        case TAKE: tray.take(clerk.number, act.nextMonitor()); break;
        case GIVE: tray.give(clerk.number, act.nextMonitor()); break;
        case READ: tray.read(act, clerk); break;
        case LOOK:
          if (tray.look(act)) {
            beginWaiting(clerk, act, step);
            return;
          }
          break;
        case MARK: tray.markKey(act.a); break;
        case MAKE: tray.make(act); break;
        default:
          tray.write(act, clerk);
          desk.wake(act.tray);
          break;
      }
      act.place++;
    }

    private void beginWaiting(Clerk clerk, Act act, int step) {
      act.waits = true;
      act.waitsSince = step + 1;
      act.waitings++;
      desk.trays[act.tray].give(clerk.number, act.monitor);
    }

    private void endAct(Clerk clerk, Act act, int outcome, int step) {
      act.waits = false;
      act.outcome = outcome;
      act.answer = outcome == WELL ? act.noted : 0;
      act.end = step;
      clerk.at++;
      addMark(act, 1, step);
    }

    private void addMark(Act act, int isEnd, int step) {
      if (markCount >= ALL_MARKS) return;
      int at = markCount * MARK_NUMBERS;
      marks[at] = act.clerk;
      marks[at + 1] = act.number;
      marks[at + 2] = isEnd;
      marks[at + 3] = step;
      markCount++;
    }
  }

  /** THE CHECKER: looks for an ORDER of the whole ACTS of one TRAY. */
  private static final class Checker {
    final Desk desk;
    final Run latest;
    final Cards plain = new Cards();
    final Act[] acts = new Act[CHECKED_ACTS];
    final int[] ahead = new int[CHECKED_ACTS];
    final int[] row = new int[CHECKED_ACTS];
    int kind;
    int limit;
    Cards due;
    int many;
    int placed;
    int made;
    int mostTries;

    Checker(Desk desk, Run latest) {
      this.desk = desk;
      this.latest = latest;
      due = plain;
      // So that no place of the row is ever null.
      for (int i = 0; i < CHECKED_ACTS; i++) acts[i] = desk.clerks[0].acts[0];
    }

    /** What fits() tells; with NONE nothing was tried. */
    int judge(int tray, int most) {
      many = 0;
      if (latest.told == CUT_OFF || !desk.hasTray(tray) || !gather(tray)) return NONE;
      kind = desk.trays[tray].kind;
      limit = desk.trays[tray].limit;
      due = desk.trays[tray].cards;
      mostTries = most;
      made = 0;
      placed = 0;
      plain.empty();
      findAhead();
      return fill(this, 0);
    }

    /** The MARKS stand in the order of the begins already. False if there are too many ACTS. */
    private boolean gather(int tray) {
      for (int i = 0; i < latest.markCount && i < ALL_MARKS; i++) {
        int at = i * MARK_NUMBERS;
        int clerk = latest.marks[at];
        int number = latest.marks[at + 1];
        if (latest.marks[at + 2] != 0 || !desk.hasAct(clerk, number)) continue;
        Act act = desk.clerks[clerk].acts[number];
        if (act.tray != tray || !act.hasEndedUntired()) continue;
        if (many >= CHECKED_ACTS) return false;
        acts[many] = act;
        many++;
      }
      return true;
    }

    private void findAhead() {
      for (int y = 0; y < many; y++) {
        ahead[y] = 0;
        for (int x = 0; x < many; x++) {
          if (acts[x].end < acts[y].begin) ahead[y] |= 1 << x;
        }
      }
    }

    int actAt(int i) {
      if (i < 0 || i >= many) return NONE;
      int x = row[i];
      if (x < 0 || x >= many) return NONE;
      return 8 * acts[x].clerk + acts[x].number;
    }

    /** Tries all ACTS at this place, and at those behind it: 1, 0, or GAVE_UP. */
    private static int fill(Checker checker, int place) {
      if (place >= checker.many || place >= CHECKED_ACTS) {
        return checker.plain.hasSame(checker.kind, checker.due) ? 1 : 0;
      }
      for (int i = 0; i < checker.many; i++) {
        if ((checker.placed >>> i & 1) != 0) continue;
        if (checker.made >= checker.mostTries) return GAVE_UP;
        checker.made++;
        Act act = checker.acts[i];
        if ((checker.ahead[i] & ~checker.placed) != 0 || !checker.answersAlike(act)) continue;
        int heldBefore = checker.plain.held;
        checker.doWhole(act);
        checker.placed |= 1 << i;
        checker.row[place] = i;
        int told = fill(checker, place + 1);
        if (told != 0) return told;
        checker.placed &= ~(1 << i);
        checker.takeBack(act, heldBefore);
      }
      return 0;
    }

    /** Whether the plain TRAY, as it is now, would answer as the ACT was answered. */
    private boolean answersAlike(Act act) {
      switch (kind) {
        case MAP:
          if (act.op == MAP_ADD) return isWell(act, keyedOrZero(act.a) + act.b);
          return isKeyed(act);
        case QUEUE:
          if (act.op == PUT) return isWell(act, act.a);
          return plain.length > 0 ? isWell(act, plain.headValue()) : isAnswer(act, NONE_THERE, 0);
        case DEQUE: return dequeAnswersAlike(act);
        case COUNTER:
          if (act.op == SUM) return isWell(act, plain.sumOfShares());
          return isWell(act, plain.valueOf(act.monitor) + act.a);
        case COPIES:
          if (act.op == COPIES_ALL) return isWell(act, plain.weightedSum());
          return isKeyed(act);
        default: return onceAnswersAlike(act);
      }
    }

    private static boolean isAnswer(Act act, int outcome, int answer) {
      return act.outcome == outcome && act.answer == answer;
    }

    private static boolean isWell(Act act, int answer) {
      return act.outcome == WELL && act.answer == answer;
    }

    private boolean isKeyed(Act act) {
      if (!plain.has(act.a)) return isAnswer(act, NONE_THERE, 0);
      return isWell(act, plain.valueOf(act.a));
    }

    private int keyedOrZero(int key) {
      return plain.has(key) ? plain.valueOf(key) : 0;
    }

    private boolean dequeAnswersAlike(Act act) {
      boolean closed = plain.closings > 0;
      switch (act.op) {
        case LAST:
        case FIRST:
          if (closed) return isAnswer(act, WAS_CLOSED, 0);
          return plain.length < limit && isWell(act, act.a);
        case CLOSE: return isWell(act, 0);
        default:
          if (plain.length <= 0) return closed && isAnswer(act, WAS_CLOSED, 0);
          return isWell(act, act.op == HEAD ? plain.headValue() : plain.tailValue());
      }
    }

    private boolean onceAnswersAlike(Act act) {
      if (act.outcome == THREW || isWell(act, act.ownMaking())) return !plain.has(act.a);
      return plain.has(act.a) && isWell(act, plain.valueOf(act.a));
    }

    /** Only behind answersAlike(): what the ACT answered tells what it does. */
    private void doWhole(Act act) {
      switch (kind) {
        case MAP:
        case COPIES:
          if (act.op == PUT) plain.put(act.a, act.b);
          else if (act.op == OUT) plain.takeOut(act.a);
          else if (kind == MAP && act.op == MAP_ADD) plain.put(act.a, act.answer);
          break;
        case QUEUE:
          if (act.op == PUT) plain.putLast(act.a);
          else plain.takeFirst();
          break;
        case DEQUE:
          if (act.outcome == WELL) doDeque(act);
          break;
        case COUNTER:
          if (act.op != SUM) plain.put(act.monitor, act.answer);
          break;
        default:
          if (act.outcome == WELL) plain.put(act.a, act.answer);
          break;
      }
    }

    private void doDeque(Act act) {
      switch (act.op) {
        case LAST: plain.putLast(act.a); break;
        case FIRST: plain.putFirst(act.a); break;
        case HEAD: plain.takeFirst(); break;
        case CLOSE: plain.closings++; break;
        default: plain.takeLast(); break;
      }
    }

    /** An ACT's answer tells what stood there before it, so that nothing but held is kept. */
    private void takeBack(Act act, int heldBefore) {
      switch (kind) {
        case MAP:
        case COPIES:
          if (act.op == PUT || act.op == OUT) plain.put(act.a, act.answer);
          else if (kind == MAP && act.op == MAP_ADD) plain.put(act.a, act.answer - act.b);
          break;
        case QUEUE:
          if (act.op == PUT) plain.takeLast();
          else if (act.outcome == WELL) plain.putFirst(act.answer);
          break;
        case DEQUE:
          if (act.outcome == WELL) takeBackDeque(act);
          break;
        case COUNTER:
          if (act.op != SUM) plain.put(act.monitor, act.answer - act.a);
          break;
        default: break;
      }
      plain.held = heldBefore;
    }

    private void takeBackDeque(Act act) {
      switch (act.op) {
        case LAST: plain.takeLast(); break;
        case FIRST: plain.takeFirst(); break;
        case HEAD: plain.putFirst(act.answer); break;
        case CLOSE: plain.closings--; break;
        default: plain.putLast(act.answer); break;
      }
    }
  }

  /** Goes through all choices of THE BATON, the latest changing first. */
  private static final class Explorer {
    final Desk desk;
    final Run latest;
    final Checker checker;
    final int[] plan = new int[MOST_STEPS];
    final int[] found = new int[EXPLORED_NUMBERS];
    final int[] seen = new int[MOST_RUNS * 2 * ALL_ACTS];
    int seenCount;
    int runsEver;

    Explorer(Desk desk, Run latest, Checker checker) {
      this.desk = desk;
      this.latest = latest;
      this.checker = checker;
    }

    void begin() {
      Arrays.fill(plan, NONE);
      Arrays.fill(found, 0);
      seenCount = 0;
    }

    void end(int runs, boolean more) {
      found[0] = more ? 0 : 1;
      found[4] = seenCount;
      runsEver += runs;
    }

    void judgeTrays() {
      if (latest.told != ALL_ENDED) found[1]++;
      boolean misfit = false;
      boolean open = false;
      for (int t = 0; t < desk.trayCount && !misfit; t++) {
        int told = checker.judge(t, TRIES_EXPLORING);
        if (told == 0) misfit = true;
        else if (told != 1) open = true;
      }
      if (misfit) found[2]++;
      else if (open) found[3]++;
    }

    /** Writes the RUN's answers behind those seen; they stay there if they are new. */
    void seeAnswers() {
      int from = seenCount * 2 * ALL_ACTS;
      if (from + 2 * ALL_ACTS > seen.length) return;
      int at = from;
      for (int c = 0; c < desk.clerkCount; c++) {
        Clerk clerk = desk.clerks[c];
        for (int i = 0; i < clerk.many && i < MOST_ACTS; i++) {
          seen[at] = clerk.acts[i].outcome;
          seen[at + 1] = clerk.acts[i].answer;
          at += 2;
        }
      }
      for (int earlier = 0; earlier < seenCount; earlier++) {
        if (areSame(earlier * 2 * ALL_ACTS, from, at - from)) return;
      }
      seenCount++;
    }

    private boolean areSame(int left, int right, int length) {
      for (int i = 0; i < length; i++) {
        if (seen[left + i] != seen[right + i]) return false;
      }
      return true;
    }

    /** Whether there is a further RUN, which is planned then. */
    private boolean planNext() {
      for (int step = latest.done - 1; step >= 0; step--) {
        for (int c = latest.chosen[step] + 1; c < MOST_CLERKS; c++) {
          if ((latest.ables[step] >>> c & 1) == 0) continue;
          System.arraycopy(latest.chosen, 0, plan, 0, step);
          plan[step] = c;
          for (int later = step + 1; later < MOST_STEPS; later++) plan[later] = NONE;
          return true;
        }
      }
      return false;
    }
  }
}
