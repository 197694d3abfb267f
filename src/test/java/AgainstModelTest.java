import java.util.Arrays;
import java.util.Random;

/**
 * Runs of calls drawn from fixed seeds: CardIndex and the Model must answer alike. How many seeds, from
 * which on, and after how many STEPS a RUN is cut off can be told as arguments.
 */
public final class AgainstModelTest {
  private static final int[] ODD = {-1, -2, 5, 6, 8, 9, 31, 32, 100, 101, 600, Integer.MAX_VALUE, Integer.MIN_VALUE};
  private final CardIndex x = new CardIndex();
  private final Model m = new Model();
  private final Random random;
  private final StringBuilder history = new StringBuilder();
  private int calls = 0;
  private boolean wrong = false;

  private AgainstModelTest(long seed) {
    random = new Random(seed);
  }

  public static void main(String[] args) {
    int seeds = args.length > 0 ? Integer.parseInt(args[0]) : 4000;
    int from = args.length > 1 ? Integer.parseInt(args[1]) : 0;
    if (args.length > 2) Model.mostSteps = Integer.parseInt(args[2]);
    int[] seen = new int[13];
    for (int seed = from; seed < from + seeds; seed++) {
      AgainstModelTest test = new AgainstModelTest(seed);
      if (seed % 3 == 0) test.callAtRandom();
      else test.playScenes(seen);
      if (test.wrong) {
        System.out.println("seed " + seed + " differs:\n" + test.history);
        System.exit(1);
      }
    }
    System.out.println("AgainstModelTest: " + seeds + " seeds alike; outcomes and tellings seen: " + Arrays.toString(seen));
  }

  private int below(int n) {
    return random.nextInt(n);
  }

  private int draw(int n) {
    return below(25) == 0 ? ODD[below(ODD.length)] : below(n);
  }

  private int value() {
    return below(12) == 0 ? ODD[below(ODD.length)] * 3 : below(4);
  }

  private long call(String name, int... p) {
    if (wrong || calls >= 512) return 0;
    calls++;
    long got = answerOf(x, name, p);
    long due = modelAnswer(name, p);
    if (got != due) wrong = true;
    history.append(name).append(Arrays.toString(p)).append(" = ").append(got);
    if (got != due) history.append(", due is ").append(due);
    history.append('\n');
    return got;
  }

  private static long answerOf(CardIndex x, String name, int[] p) {
    return switch (name) {
      case "tray" -> x.tray(p[0], p[1], p[2]);
      case "clerk" -> x.clerk();
      case "act" -> x.act(p[0], p[1], p[2], p[3], p[4]);
      case "baton" -> x.baton(p[0], p[1]);
      case "patience" -> x.patience(p[0], p[1], p[2]);
      case "throwing" -> x.throwing(p[0], p[1], p[2]);
      case "run" -> x.run();
      case "answer" -> x.answer(p[0], p[1]);
      case "outcome" -> x.outcome(p[0], p[1]);
      case "waited" -> x.waited(p[0], p[1]);
      case "mark" -> x.mark(p[0], p[1]);
      case "count" -> x.count(p[0]);
      case "size" -> x.size(p[0]);
      case "card" -> x.card(p[0], p[1], p[2]);
      case "asked" -> x.asked();
      case "about" -> x.about(p[0], p[1]);
      case "fits" -> x.fits(p[0]);
      case "order" -> x.order(p[0], p[1]);
      case "tries" -> x.tries();
      case "first" -> x.first();
      case "explore" -> x.explore(p[0]);
      case "explored" -> x.explored(p[0]);
      case "digest" -> x.digest();
      default -> x.clear();
    };
  }

  private long modelAnswer(String name, int[] p) {
    return switch (name) {
      case "tray" -> m.tray(p[0], p[1], p[2]);
      case "clerk" -> m.clerk();
      case "act" -> m.act(p[0], p[1], p[2], p[3], p[4]);
      case "baton" -> m.baton(p[0], p[1]);
      case "patience" -> m.patience(p[0], p[1], p[2]);
      case "throwing" -> m.throwing(p[0], p[1], p[2]);
      case "run" -> m.run();
      case "answer" -> m.answer(p[0], p[1]);
      case "outcome" -> m.outcome(p[0], p[1]);
      case "waited" -> m.waited(p[0], p[1]);
      case "mark" -> m.mark(p[0], p[1]);
      case "count" -> m.count(p[0]);
      case "size" -> m.size(p[0]);
      case "card" -> m.card(p[0], p[1], p[2]);
      case "asked" -> m.asked();
      case "about" -> m.about(p[0], p[1]);
      case "fits" -> m.fits(p[0]);
      case "order" -> m.order(p[0], p[1]);
      case "tries" -> m.tries();
      case "first" -> m.first();
      case "explore" -> m.explore(p[0]);
      case "explored" -> m.explored(p[0]);
      case "digest" -> m.digest();
      default -> m.clear();
    };
  }

  /** Any call at any time, most of its numbers being good ones. */
  private void callAtRandom() {
    int exploring = 0;
    for (int i = 0; i < 400 && !wrong; i++) {
      switch (below(26)) {
        case 0 -> call("tray", draw(6), 1 + draw(4), draw(3));
        case 1, 2 -> call("clerk");
        case 3, 4, 5, 6, 7 -> call("act", draw(4), draw(4), draw(4), draw(9), value());
        case 8 -> call("baton", draw(60), draw(6) - 1);
        case 9 -> call("patience", draw(4), draw(6), draw(12));
        case 10 -> call("throwing", draw(4), draw(9), draw(4));
        case 11, 12, 13 -> call("run");
        case 14 -> call("answer", draw(4), draw(5));
        case 15 -> call("outcome", draw(4), draw(5));
        case 16 -> call("waited", draw(4), draw(5));
        case 17 -> call("mark", draw(20), draw(4));
        case 18 -> call("count", draw(6));
        case 19 -> {
          call("size", draw(4));
          call("card", draw(4), draw(5), draw(2));
          call("asked");
        }
        case 20 -> call("about", draw(4), draw(6));
        case 21 -> call("fits", draw(4));
        case 22 -> call("order", draw(4), draw(5));
        case 23 -> {
          call("first");
          call("tries");
        }
        case 24 -> {
          if (exploring++ < 3) call("explore", draw(8));
          call("explored", draw(5));
        }
        default -> {
          call("digest");
          if (below(6) == 0) call("clear");
        }
      }
    }
  }

  /** Whole scenes: trays, clerks, acts, a baton, a run, and then all that is told of it. */
  private void playScenes(int[] seen) {
    for (int scene = 0; scene < 3 && calls < 300 && !wrong; scene++) {
      if (scene > 0) call("clear");
      if (below(12) == 0) playWaiters(seen);
      else playScene(seen);
    }
  }

  /** HEADS that wait from the start stand beside all else, so that THE CHECKER has much to try. */
  private void playWaiters(int[] seen) {
    call("tray", 2, 1 + below(4), below(3));
    int clerks = 3 + below(3);
    for (int c = 0; c < clerks; c++) call("clerk");
    int heads = 1 + below(2);
    for (int c = 0; c < clerks - 1; c++) for (int i = 0; i < heads; i++) call("act", c, 0, 2 + below(2), 0, 0);
    for (int i = 3 + below(6); i > 0; i--) call("act", clerks - 1, 0, below(2), 5, 0);
    if (below(3) == 0) call("patience", below(clerks), 0, below(30));
    call("run");
    askAll(1, clerks, seen);
    call("explore", 1 + below(60));
    for (int i = 0; i < 5; i++) {
      long told = call("explored", i);
      if (i == 3 && told > 0) seen[12]++;
    }
    call("digest");
  }

  private void playScene(int[] seen) {
    boolean dense = below(3) == 0;
    int trays = dense ? 1 : 1 + below(below(3) == 0 ? 6 : 2);
    int clerks = dense ? 3 + below(3) : 1 + below(5);
    int fault = below(3);
    int[] kinds = new int[trays];
    for (int t = 0; t < trays; t++) {
      kinds[t] = below(6);
      call("tray", kinds[t], 1 + below(3), below(3) == 0 ? below(3) : fault);
    }
    for (int c = 0; c < clerks; c++) call("clerk");
    int keys = 1 + below(6);
    int stride = below(3) == 0 ? 1 : 4;
    int acts = dense ? 9 + below(5) : below(4) == 0 ? below(41) : below(13);
    for (int i = 0; i < acts; i++) addAct(kinds, clerks, keys, stride);
    int length = below(120);
    for (int i = 0; i < length; i++) call("baton", i, below(clerks + 1) - 1);
    for (int i = below(3) * below(8); i > 0; i--) call("patience", below(clerks), below(4), below(8));
    for (int i = below(5); i > 0; i--) call("throwing", below(trays), below(keys) * stride, below(4));
    int told = (int) call("run");
    if (told >= 0 && told <= 2) seen[9 + told]++;
    askAll(trays, clerks, seen);
    if (below(3) != 0) return;
    call("explore", below(10) == 0 ? 60 : 1 + below(12));
    for (int i = 0; i < 5; i++) call("explored", i);
    call("tries");
    call("digest");
  }

  private void addAct(int[] kinds, int clerks, int keys, int stride) {
    int tray = below(kinds.length);
    int[] ops = {4, 2, 5, 2, 4, 1};
    int kind = kinds[tray];
    int op = below(ops[kind]);
    if (kind == 2 && op == 4 && below(3) != 0) op = below(4);
    if (kind == 0 && op > 1 && below(3) != 0) op = 0;
    boolean keyed = kind == 0 || kind == 4 || kind == 5;
    int key = keys == 6 && stride == 4 ? 4 * below(8) : below(keys) * stride;
    call("act", below(clerks), tray, op, keyed ? key : value(), value());
  }

  private void askAll(int trays, int clerks, int[] seen) {
    call("digest");
    for (int what = 0; what < 6; what++) call("count", what);
    for (int t = 0; t < trays; t++) {
      int fits = (int) call("fits", t);
      seen[fits == 1 ? 0 : fits == 0 ? 1 : fits == -1 ? 2 : 3]++;
      call("tries");
      call("order", t, below(5));
      call("size", t);
      call("card", t, below(5), below(2));
      call("asked");
      for (int what = 0; what < 6; what++) call("about", t, what);
    }
    call("first");
    call("tries");
    for (int i = 0; i < 24; i++) call("mark", below(30), below(4));
    for (int c = 0; c < clerks; c++) {
      int act = below(8);
      int outcome = (int) call("outcome", c, act);
      if (outcome >= 1 && outcome <= 5) seen[3 + outcome]++;
      call("answer", c, act);
      call("waited", c, act);
    }
  }
}
