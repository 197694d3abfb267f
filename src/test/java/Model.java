import java.util.ArrayList;
import java.util.HashSet;
import java.util.LinkedList;
import java.util.List;
import java.util.Map;
import java.util.Set;
import java.util.TreeMap;

/**
 * The document written a second time, with lists and maps and with replays instead of taking back,
 * so that AgainstModelTest can compare CardIndex with something built otherwise.
 */
final class Model {
  static final int NONE = -1, BAD = -2, NO = -3, FULL = -4;
  /** The document's 600, but for CutOffTest. */
  static int mostSteps = 600;
  private static final String[] KINDS = {"MAP", "QUEUE", "DEQUE", "COUNTER", "COPIES", "ONCE"};
  private static final String[][] OPS = {
    {"PUT", "GET", "OUT", "ADD"}, {"PUT", "POLL"}, {"LAST", "FIRST", "HEAD", "TAIL", "CLOSE"},
    {"ADD", "SUM"}, {"PUT", "GET", "OUT", "ALL"}, {"MAKE"}};

  record TraySpec(String kind, int a, int fault, Map<Integer, Integer> throwing) {}

  static final class ActSpec {
    int clerk, number, tray, a, b, patience;
    String op;
  }

  private final List<TraySpec> trays = new ArrayList<>();
  private final List<List<ActSpec>> clerks = new ArrayList<>();
  private final Map<Integer, Integer> baton = new TreeMap<>();
  private final int[] explored = new int[5];
  private World world;
  private int tries, asked, runsEver;

  // ---- the world of one RUN ----

  static final class ActState {
    final ActSpec spec;
    final List<String> steps;
    int at = 0, waited = 0, waitSteps = 0, begin = -1, end = -1;
    boolean waiting = false, sawClosed = false, threw = false;
    Integer noted = null;
    Map<Integer, Integer> copy = null;
    int outcome = 6, answer = 0;

    ActState(ActSpec spec, List<String> steps) {
      this.spec = spec;
      this.steps = steps;
    }
  }

  static final class StripeState {
    List<LinkedList<Integer>> rows = new ArrayList<>(List.of(new LinkedList<>()));
    List<LinkedList<Integer>> fresh = null;
    int moved = 0;

    int cards() {
      int n = 0;
      for (LinkedList<Integer> row : rows) n += row.size();
      if (fresh != null) for (LinkedList<Integer> row : fresh) n += row.size();
      return n;
    }

    static void toHead(List<LinkedList<Integer>> rows, int key) {
      rows.get(key / 4 % rows.size()).addFirst(key);
    }
  }

  static final class TrayState {
    final TraySpec spec;
    final Integer[] owner = new Integer[4];
    final TreeMap<Integer, Integer> keyed = new TreeMap<>();
    final ArrayList<Integer> line = new ArrayList<>();
    final int[] shares = new int[4];
    final Set<Integer> marked = new HashSet<>();
    final Map<Integer, Integer> throwsLeft;
    final List<StripeState> stripes = new ArrayList<>();
    boolean closed = false;
    int grown = 0, moved = 0, makings = 0, threw = 0;

    TrayState(TraySpec spec) {
      this.spec = spec;
      throwsLeft = new TreeMap<>(spec.throwing());
      for (int i = 0; i < 4; i++) stripes.add(new StripeState());
    }

    List<int[]> cards() {
      List<int[]> all = new ArrayList<>();
      switch (spec.kind()) {
        case "QUEUE", "DEQUE" -> {
          for (int i = 0; i < line.size(); i++) all.add(new int[] {i, line.get(i)});
        }
        case "COUNTER" -> {
          for (int i = 0; i < 4; i++) all.add(new int[] {i, shares[i]});
        }
        case "MAP" -> {
          for (StripeState s : stripes) {
            List<LinkedList<Integer>> rows = new ArrayList<>(s.rows);
            if (s.fresh != null) rows.addAll(s.fresh);
            for (LinkedList<Integer> row : rows) for (int k : row) all.add(new int[] {k, keyed.get(k)});
          }
        }
        default -> {
          for (Map.Entry<Integer, Integer> e : keyed.entrySet()) all.add(new int[] {e.getKey(), e.getValue()});
        }
      }
      return all;
    }
  }

  final class World {
    final List<TrayState> trayStates = new ArrayList<>();
    final List<List<ActState>> acts = new ArrayList<>();
    final List<int[]> marks = new ArrayList<>();
    final List<ActState> begun = new ArrayList<>();
    int done = 0;

    World() {
      for (TraySpec t : trays) trayStates.add(new TrayState(t));
      for (List<ActSpec> row : clerks) {
        List<ActState> states = new ArrayList<>();
        for (ActSpec a : row) states.add(new ActState(a, stepsOf(a)));
        acts.add(states);
      }
    }

    List<String> stepsOf(ActSpec a) {
      String kind = trays.get(a.tray).kind();
      String text = switch (kind) {
        case "MAP" -> a.op.equals("GET") ? "Tm R Gm" : "Tm R W Gm";
        case "QUEUE" -> a.op.equals("PUT") ? "T1 R W G1" : "T0 R W G0";
        case "DEQUE" -> "T0 L W G0";
        case "COUNTER" -> a.op.equals("SUM") ? "T0 T1 T2 T3 R G0 G1 G2 G3" : "Tm R W Gm";
        case "COPIES" -> a.op.equals("GET") || a.op.equals("ALL") ? "R" : "T0 R W G0";
        default -> "T0 L K G0 M T0 W G0";
      };
      text = text.replace("m", "" + (kind.equals("COUNTER") ? a.clerk % 4 : Math.floorMod(a.a, 4)));
      List<String> steps = new ArrayList<>(List.of(text.split(" ")));
      int write = steps.indexOf("W");
      if (trays.get(a.tray).fault() == 2 && write >= 0) steps.add(write, steps.remove(write + 1));
      return steps;
    }

    ActState current(int clerk) {
      for (ActState a : acts.get(clerk)) if (a.outcome >= 5) return a;
      return null;
    }

    List<Integer> able() {
      List<Integer> all = new ArrayList<>();
      for (int c = 0; c < acts.size(); c++) {
        ActState a = current(c);
        if (a == null) continue;
        if (a.waiting) {
          if (a.spec.patience > 0 && a.waitSteps >= a.spec.patience) all.add(c);
          continue;
        }
        TrayState t = trayStates.get(a.spec.tray);
        String step = a.steps.get(a.at);
        if (t.spec.fault() != 1 && step.charAt(0) == 'T') {
          Integer owner = t.owner[step.charAt(1) - '0'];
          if (owner != null && owner != c) continue;
        }
        all.add(c);
      }
      return all;
    }

    void step(int clerk) {
      ActState a = current(clerk);
      for (List<ActState> row : acts) for (ActState other : row) if (other.waiting) other.waitSteps++;
      if (a.outcome == 6) {
        a.outcome = 5;
        a.begin = done;
        begun.add(a);
        marks.add(new int[] {clerk, a.spec.number, 0, done});
      }
      if (a.waiting) {
        a.waiting = false;
        finish(a, 4, 0);
      } else {
        act(a, clerk);
      }
      done++;
    }

    void finish(ActState a, int outcome, int answer) {
      a.outcome = outcome;
      a.answer = answer;
      a.end = done;
      marks.add(new int[] {a.spec.clerk, a.spec.number, 1, done});
    }

    void act(ActState a, int clerk) {
      TrayState t = trayStates.get(a.spec.tray);
      String step = a.steps.get(a.at);
      boolean bare = t.spec.fault() == 1;
      boolean endsHere = a.at == a.steps.size() - 1;
      a.at++;
      switch (step.charAt(0)) {
        case 'T' -> { if (!bare) t.owner[step.charAt(1) - '0'] = clerk; }
        case 'G' -> {
          if (!bare) t.owner[step.charAt(1) - '0'] = null;
          if (t.spec.kind().equals("ONCE") && a.at == 4 && a.noted != null) endsHere = true;
        }
        case 'R' -> read(t, a, clerk);
        case 'L' -> {
          boolean waits = t.spec.kind().equals("ONCE") ? lookOnce(t, a) : lookDeque(t, a);
          if (waits) {
            a.waiting = true;
            a.waitSteps = 0;
            a.waited++;
            a.at = 0;
            if (!bare) t.owner[0] = null;
          }
        }
        case 'K' -> t.marked.add(a.spec.a);
        case 'M' -> {
          t.makings++;
          int left = t.throwsLeft.getOrDefault(a.spec.a, 0);
          if (left > 0) {
            t.throwsLeft.put(a.spec.a, left - 1);
            t.threw++;
            a.threw = true;
          }
        }
        default -> {
          write(t, a, clerk);
          for (List<ActState> row : acts) for (ActState o : row) if (o.spec.tray == a.spec.tray) o.waiting = false;
        }
      }
      if (endsHere) tell(a);
    }

    void tell(ActState a) {
      if (a.sawClosed) finish(a, 2, 0);
      else if (a.threw) finish(a, 3, 0);
      else if (a.noted == null) finish(a, 1, 0);
      else finish(a, 0, a.noted);
    }

    void read(TrayState t, ActState a, int clerk) {
      switch (t.spec.kind()) {
        case "MAP" -> {
          StripeState s = t.stripes.get(a.spec.a % 4);
          if (s.fresh != null) {
            LinkedList<Integer> row = s.rows.get(s.moved);
            while (!row.isEmpty()) {
              StripeState.toHead(s.fresh, row.removeFirst());
              t.moved++;
            }
            s.moved++;
            if (s.moved == s.rows.size()) {
              s.rows = s.fresh;
              s.fresh = null;
              s.moved = 0;
            }
          }
          a.noted = t.keyed.get(a.spec.a);
          if (a.spec.op.equals("ADD") && a.noted == null) a.noted = 0;
        }
        case "QUEUE" -> a.noted = a.spec.op.equals("PUT") ? (Integer) a.spec.a : t.line.isEmpty() ? null : t.line.get(0);
        case "COUNTER" -> {
          int sum = 0;
          for (int share : t.shares) sum += share;
          a.noted = a.spec.op.equals("SUM") ? sum : t.shares[clerk % 4];
        }
        default -> {
          a.copy = new TreeMap<>(t.keyed);
          if (a.spec.op.equals("ALL")) a.noted = weigh(t.keyed);
          else a.noted = t.keyed.get(a.spec.a);
        }
      }
    }

    boolean lookOnce(TrayState t, ActState a) {
      a.noted = t.keyed.get(a.spec.a);
      if (a.noted != null) a.at = a.steps.indexOf("G0");
      return a.noted == null && t.marked.contains(a.spec.a);
    }

    boolean lookDeque(TrayState t, ActState a) {
      a.sawClosed = false;
      switch (a.spec.op) {
        case "LAST", "FIRST" -> {
          a.noted = a.spec.a;
          if (t.closed) a.sawClosed = true;
          else return t.line.size() >= t.spec.a();
        }
        case "HEAD", "TAIL" -> {
          if (!t.line.isEmpty()) a.noted = t.line.get(a.spec.op.equals("HEAD") ? 0 : t.line.size() - 1);
          else if (t.closed) a.sawClosed = true;
          else return true;
        }
        default -> a.noted = 0;
      }
      return false;
    }

    void write(TrayState t, ActState a, int clerk) {
      int key = a.spec.a;
      switch (t.spec.kind()) {
        case "MAP" -> {
          StripeState s = t.stripes.get(key % 4);
          if (a.spec.op.equals("OUT")) {
            t.keyed.remove(key);
            for (LinkedList<Integer> row : s.rows) row.remove((Integer) key);
            if (s.fresh != null) for (LinkedList<Integer> row : s.fresh) row.remove((Integer) key);
            return;
          }
          int value = a.spec.b;
          if (a.spec.op.equals("ADD")) {
            value += a.noted;
            a.noted = value;
          }
          boolean isNew = t.keyed.put(key, value) == null;
          if (!isNew) return;
          StripeState.toHead(s.fresh != null ? s.fresh : s.rows, key);
          if (s.fresh == null && s.cards() > 2 * s.rows.size()) {
            s.fresh = new ArrayList<>();
            for (int i = 0; i < 2 * s.rows.size(); i++) s.fresh.add(new LinkedList<>());
            t.grown++;
          }
        }
        case "QUEUE" -> {
          if (a.spec.op.equals("PUT")) t.line.add(a.spec.a);
          else if (a.noted != null && !t.line.isEmpty()) t.line.remove(0);
        }
        case "DEQUE" -> {
          if (a.sawClosed) return;
          switch (a.spec.op) {
            case "LAST" -> t.line.add(a.spec.a);
            case "FIRST" -> t.line.add(0, a.spec.a);
            case "HEAD" -> { if (!t.line.isEmpty()) t.line.remove(0); }
            case "TAIL" -> { if (!t.line.isEmpty()) t.line.remove(t.line.size() - 1); }
            default -> t.closed = true;
          }
        }
        case "COUNTER" -> {
          a.noted = a.noted + a.spec.a;
          t.shares[clerk % 4] = a.noted;
        }
        case "COPIES" -> {
          t.keyed.clear();
          t.keyed.putAll(a.copy);
          if (a.spec.op.equals("PUT")) t.keyed.put(key, a.spec.b);
          else t.keyed.remove(key);
        }
        default -> {
          t.marked.remove(key);
          if (a.threw) return;
          a.noted = 1000 * (clerk + 1) + a.spec.number;
          t.keyed.put(key, a.noted);
        }
      }
    }

    int told() {
      if (!able().isEmpty()) return 2;
      for (int c = 0; c < acts.size(); c++) if (current(c) != null) return 1;
      return 0;
    }
  }

  private static int weigh(Map<Integer, Integer> cards) {
    int sum = 0;
    for (Map.Entry<Integer, Integer> e : cards.entrySet()) sum += (e.getKey() + 1) * e.getValue();
    return sum;
  }

  // ---- THE CHECKER, each TRY replaying the whole row from an empty plain TRAY ----

  private final class Checking {
    final TrayState tray;
    final List<ActState> acts = new ArrayList<>();
    final int most;
    final boolean none;
    List<ActState> found = null;
    int made = 0;
    boolean gaveUp = false;

    Checking(World w, int trayNumber, int most) {
      this.most = most;
      tray = w.trayStates.get(trayNumber);
      for (ActState a : w.begun) if (a.spec.tray == trayNumber && a.outcome < 4) acts.add(a);
      none = w.told() == 2 || acts.size() > 12;
      if (!none) search(new ArrayList<>());
    }

    int told() {
      return none ? NONE : gaveUp ? -5 : found != null ? 1 : 0;
    }

    void search(List<ActState> row) {
      if (row.size() == acts.size()) {
        if (replay(row, true)) found = row;
        return;
      }
      for (ActState a : acts) {
        if (row.contains(a)) continue;
        if (made == most) {
          gaveUp = true;
          return;
        }
        made++;
        boolean allowed = true;
        for (ActState x : acts) if (x.end < a.begin && !row.contains(x)) allowed = false;
        List<ActState> longer = new ArrayList<>(row);
        longer.add(a);
        if (!allowed || !replay(longer, false)) continue;
        search(longer);
        if (found != null || gaveUp) return;
      }
    }

    boolean replay(List<ActState> row, boolean toTheEnd) {
      TrayState p = new TrayState(tray.spec);
      for (ActState a : row) if (!same(p, a)) return false;
      if (!toTheEnd) return true;
      int mine = 0, due = 0;
      for (int i = 0; i < 4; i++) {
        mine += p.shares[i];
        due += tray.shares[i];
      }
      return p.keyed.equals(tray.keyed) && p.line.equals(tray.line) && p.closed == tray.closed && mine == due;
    }

    /** Does the ACT at once; whether it is answered as it was in the RUN. */
    boolean same(TrayState p, ActState act) {
      ActSpec s = act.spec;
      Integer answer;
      int outcome = 0;
      switch (p.spec.kind() + " " + s.op) {
        case "MAP PUT", "COPIES PUT" -> answer = p.keyed.put(s.a, s.b);
        case "MAP GET", "COPIES GET" -> answer = p.keyed.get(s.a);
        case "MAP OUT", "COPIES OUT" -> answer = p.keyed.remove(s.a);
        case "MAP ADD" -> {
          answer = p.keyed.getOrDefault(s.a, 0) + s.b;
          p.keyed.put(s.a, answer);
        }
        case "COPIES ALL" -> answer = weigh(p.keyed);
        case "QUEUE PUT" -> {
          p.line.add(s.a);
          answer = s.a;
        }
        case "QUEUE POLL" -> answer = p.line.isEmpty() ? null : p.line.remove(0);
        case "DEQUE LAST", "DEQUE FIRST" -> {
          answer = s.a;
          if (p.closed) {
            outcome = 2;
            answer = 0;
          } else if (p.line.size() >= p.spec.a()) {
            return false;
          } else {
            p.line.add(s.op.equals("LAST") ? p.line.size() : 0, s.a);
          }
        }
        case "DEQUE HEAD", "DEQUE TAIL" -> {
          answer = 0;
          if (!p.line.isEmpty()) answer = p.line.remove(s.op.equals("HEAD") ? 0 : p.line.size() - 1);
          else if (p.closed) outcome = 2;
          else return false;
        }
        case "DEQUE CLOSE" -> {
          p.closed = true;
          answer = 0;
        }
        case "COUNTER ADD" -> answer = p.shares[s.clerk % 4] += s.a;
        case "COUNTER SUM" -> answer = p.shares[0] + p.shares[1] + p.shares[2] + p.shares[3];
        default -> {
          int own = 1000 * (s.clerk + 1) + s.number;
          if (act.outcome == 3) return !p.keyed.containsKey(s.a);
          if (act.answer == own) return p.keyed.put(s.a, own) == null;
          return p.keyed.containsKey(s.a) && p.keyed.get(s.a) == act.answer;
        }
      }
      if (answer == null) {
        outcome = 1;
        answer = 0;
      }
      return outcome == act.outcome && answer == act.answer;
    }
  }

  // ---- the public face ----

  private boolean hasTray(int t) {
    return t >= 0 && t < trays.size();
  }

  private boolean hasAct(int c, int n) {
    return c >= 0 && c < clerks.size() && n >= 0 && n < clerks.get(c).size();
  }

  int tray(int kind, int a, int fault) {
    if (kind < 0 || kind > 5 || fault < 0 || fault > 2 || kind == 2 && (a < 1 || a > 8)) return BAD;
    if (trays.size() == 6) return FULL;
    trays.add(new TraySpec(KINDS[kind], a, fault, new TreeMap<>()));
    world = null;
    return trays.size() - 1;
  }

  int clerk() {
    if (clerks.size() == 5) return FULL;
    clerks.add(new ArrayList<>());
    world = null;
    return clerks.size() - 1;
  }

  int act(int clerk, int tray, int op, int a, int b) {
    if (clerk < 0 || clerk >= clerks.size() || !hasTray(tray)) return BAD;
    int kind = List.of(KINDS).indexOf(trays.get(tray).kind());
    if (op < 0 || op >= OPS[kind].length) return BAD;
    String name = OPS[kind][op];
    boolean keyed = kind == 0 || kind == 5 || kind == 4 && !name.equals("ALL");
    if (keyed && (a < 0 || a > 31)) return BAD;
    if (clerks.get(clerk).size() == 8) return FULL;
    ActSpec s = new ActSpec();
    s.clerk = clerk;
    s.number = clerks.get(clerk).size();
    s.tray = tray;
    s.op = name;
    s.a = a;
    s.b = b;
    clerks.get(clerk).add(s);
    world = null;
    return s.number;
  }

  int baton(int i, int clerk) {
    if (i < 0 || i >= mostSteps || clerk < -1 || clerk > 4) return BAD;
    baton.put(i, clerk);
    world = null;
    return 1;
  }

  int patience(int clerk, int act, int n) {
    if (!hasAct(clerk, act) || n < 0 || n > 100) return BAD;
    clerks.get(clerk).get(act).patience = n;
    world = null;
    return 1;
  }

  int throwing(int tray, int key, int n) {
    if (!hasTray(tray) || !trays.get(tray).kind().equals("ONCE") || key < 0 || key > 31 || n < 0 || n > 9) return BAD;
    trays.get(tray).throwing().put(key, n);
    world = null;
    return 1;
  }

  int run() {
    world = new World();
    while (world.done < mostSteps && !world.able().isEmpty()) {
      List<Integer> able = world.able();
      int named = baton.getOrDefault(world.done, NONE);
      world.step(able.contains(named) ? named : able.get(0));
    }
    return world.told();
  }

  private ActState state(int clerk, int act) {
    return world.acts.get(clerk).get(act);
  }

  int answer(int clerk, int act) {
    return !hasAct(clerk, act) || world == null ? 0 : state(clerk, act).answer;
  }

  int outcome(int clerk, int act) {
    return !hasAct(clerk, act) ? BAD : world == null ? NO : state(clerk, act).outcome;
  }

  int waited(int clerk, int act) {
    return !hasAct(clerk, act) ? BAD : world == null ? NO : state(clerk, act).waited;
  }

  int mark(int i, int what) {
    if (i < 0 || what < 0 || what > 3) return BAD;
    if (world == null) return NO;
    return i < world.marks.size() ? world.marks.get(i)[what] : NONE;
  }

  int count(int what) {
    if (what < 0 || what > 5) return BAD;
    if (what > 2 && world == null) return NO;
    int acts = 0, waiting = 0;
    for (List<ActSpec> row : clerks) acts += row.size();
    if (world != null) for (List<ActState> row : world.acts) for (ActState a : row) if (a.waiting) waiting++;
    return switch (what) {
      case 0 -> trays.size();
      case 1 -> clerks.size();
      case 2 -> acts;
      case 3 -> world.done;
      case 4 -> world.marks.size();
      default -> waiting;
    };
  }

  int size(int tray) {
    return !hasTray(tray) ? BAD : world == null ? NO : world.trayStates.get(tray).cards().size();
  }

  int card(int tray, int i, int what) {
    if (!hasTray(tray) || i < 0 || what < 0 || what > 1) return BAD;
    if (world == null) return NO;
    List<int[]> cards = world.trayStates.get(tray).cards();
    if (i >= cards.size()) return NONE;
    asked = cards.get(i)[what];
    return 1;
  }

  int asked() {
    return asked;
  }

  int about(int tray, int what) {
    if (!hasTray(tray) || what < 0 || what > 5) return BAD;
    String[] owners = {"MAP", "MAP", "MAP", "DEQUE", "ONCE", "ONCE"};
    if (!trays.get(tray).kind().equals(owners[what])) return BAD;
    if (world == null) return NO;
    TrayState t = world.trayStates.get(tray);
    int rows = 0;
    for (StripeState s : t.stripes) rows += s.fresh != null ? s.fresh.size() : s.rows.size();
    return new int[] {t.grown, t.moved, rows, t.closed ? 1 : 0, t.makings, t.threw}[what];
  }

  private Checking check(int tray) {
    Checking c = new Checking(world, tray, 3000);
    if (!c.none) tries = c.made;
    return c;
  }

  int fits(int tray) {
    return !hasTray(tray) ? BAD : world == null ? NO : check(tray).told();
  }

  int order(int tray, int i) {
    if (!hasTray(tray)) return BAD;
    if (world == null) return NO;
    List<ActState> row = check(tray).found;
    if (row == null || i < 0 || i >= row.size()) return NONE;
    return 8 * row.get(i).spec.clerk + row.get(i).spec.number;
  }

  int tries() {
    return tries;
  }

  int first() {
    if (world == null) return NO;
    for (int t = 0; t < trays.size(); t++) if (check(t).told() == 0) return t;
    return NONE;
  }

  int explore(int most) {
    if (most < 1 || most > 60) return BAD;
    if (runsEver + most > 1000) return FULL;
    List<World> worlds = new ArrayList<>();
    walk(new ArrayList<>(), worlds, most + 1);
    explored[0] = worlds.size() <= most ? 1 : 0;
    if (worlds.size() > most) worlds.remove(most);
    explored[1] = explored[2] = explored[3] = 0;
    Set<List<Integer>> answers = new HashSet<>();
    for (World w : worlds) {
      if (w.told() != 0) explored[1]++;
      boolean zero = false, open = false;
      for (int t = 0; t < trays.size(); t++) {
        int told = new Checking(w, t, 300).told();
        zero |= told == 0;
        open |= told < 0;
      }
      if (zero) explored[2]++;
      else if (open) explored[3]++;
      List<Integer> all = new ArrayList<>();
      for (List<ActState> row : w.acts) for (ActState a : row) all.addAll(List.of(a.answer, a.outcome));
      answers.add(all);
    }
    explored[4] = answers.size();
    runsEver += worlds.size();
    run();
    return worlds.size();
  }

  /** Down to a leaf along the least ones, then the other choices from the latest back. */
  private void walk(List<Integer> chosen, List<World> worlds, int most) {
    World w = new World();
    for (int c : chosen) w.step(c);
    List<List<Integer>> ables = new ArrayList<>();
    List<Integer> path = new ArrayList<>(chosen);
    while (w.done < mostSteps && !w.able().isEmpty()) {
      ables.add(w.able());
      path.add(w.able().get(0));
      w.step(w.able().get(0));
    }
    worlds.add(w);
    for (int at = path.size() - 1; at >= chosen.size(); at--) {
      List<Integer> able = ables.get(at - chosen.size());
      for (int i = 1; i < able.size(); i++) {
        if (worlds.size() >= most) return;
        List<Integer> other = new ArrayList<>(path.subList(0, at));
        other.add(able.get(i));
        walk(other, worlds, most);
      }
    }
  }

  int explored(int what) {
    return what < 0 || what > 4 ? BAD : explored[what];
  }

  long digest() {
    if (world == null) return 0;
    long h = 7;
    for (List<ActState> row : world.acts) {
      for (ActState a : row) h = 31 * (31 * (31 * h + a.outcome) + a.answer) + a.waited;
    }
    for (TrayState t : world.trayStates) {
      h = 31 * h + t.cards().size();
      for (int[] card : t.cards()) h = 31 * (31 * h + card[0]) + card[1];
    }
    return h;
  }

  int clear() {
    int acts = count(2);
    trays.clear();
    clerks.clear();
    baton.clear();
    world = null;
    return acts;
  }
}
