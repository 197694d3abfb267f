/** Asks a copy of CardIndex whose RUNS are cut off at 20 STEPS; CutOffTest makes the copy and calls this. */
public final class CutOffScenes extends Asking {
  private static final int MOST = 20;

  public static void main(String[] args) {
    batonOfThatLength();
    justAllSteps();
    oneStepMore();
    cutOffBehindAWrite();
    noneAbleAtTheEnd();
    ableByPatienceAtTheEnd();
    stillTriedBefore();
    exploringCutOffs();
    exploringSomeCutOffs();
    end("CutOffScenes");
  }

  /** That the copy is what it should be. */
  private static void batonOfThatLength() {
    CardIndex x = new CardIndex();
    due("the last choice", x.baton(MOST - 1, 4), 1);
    due("no further choice", x.baton(MOST, 4), BAD);
  }

  /** Clerk 0 with so many PUTS of 4 STEPS and GETS of 3 on tray 0, a MAP, each of another KEY. */
  private static void addActs(CardIndex x, int puts, int gets) {
    for (int i = 0; i < puts; i++) x.act(0, 0, PUT, i, i + 100);
    for (int i = 0; i < gets; i++) x.act(0, 0, GET, i, 0);
  }

  // ---- 3: "It goes on till none is ABLE, or 600 STEPS are done."

  private static void justAllSteps() {
    CardIndex x = desk(PLAIN, 1, MAP);
    addActs(x, 5, 0);
    due("just all steps", x.run(), 0);
    due("just all steps: steps", x.count(3), MOST);
    mark("just all steps", x, 9, 0, 4, 1, MOST - 1);
    due("just all steps fit", x.fits(0), 1);
    due("just all steps: order", x.order(0, 4), 4);
  }

  private static void oneStepMore() {
    CardIndex x = desk(PLAIN, 1, MAP, COPIES);
    addActs(x, 5, 0);
    x.act(0, 1, GET, 0, 0);
    due("one step more", x.run(), 2);
    due("one step more: steps", x.count(3), MOST);
    due("one step more: marks", x.count(4), 10);
    due("one step more: none waits", x.count(5), 0);
    told("one step more: the last that ended", x, 0, 4, NONE_THERE, 0);
    told("one step more: not begun", x, 0, 5, NOT_BEGUN, 0);
    cards("one step more", x, 0, 4, 104, 0, 100, 1, 101, 2, 102, 3, 103);
    // Promises 18 to 21: NONE where the RUN answered 2, for each tray, and nothing is tried.
    for (int t = 0; t < 2; t++) {
      due("one step more: fits", x.fits(t), NONE);
      due("one step more: order", x.order(t, 0), NONE);
    }
    due("one step more: first", x.first(), NONE);
    due("one step more: tries", x.tries(), 0);
    due("one step more: no such tray", x.fits(2), BAD);
    due("one step more: no such order", x.order(2, 0), BAD);
  }

  /** What was written is there, though the act is not through, and has no answer. */
  private static void cutOffBehindAWrite() {
    CardIndex x = desk(PLAIN, 1, MAP);
    addActs(x, 2, 3);
    x.act(0, 0, MAP_ADD, 9, 7);
    due("behind a write", x.run(), 2);
    told("behind a write", x, 0, 5, WAITS, 0);
    due("behind a write: it does not wait", x.count(5), 0);
    due("behind a write: marks", x.count(4), 11);
    mark("behind a write", x, 10, 0, 5, 0, 17);
    cards("behind a write", x, 0, 0, 100, 9, 7, 1, 101);
    long h = 7;
    int[] outcomes = {NONE_THERE, NONE_THERE, WELL, WELL, NONE_THERE, WAITS}, answers = {0, 0, 100, 101, 0, 0};
    for (int i = 0; i < 6; i++) h = 31 * (31 * (31 * h + outcomes[i]) + answers[i]);
    h = 31 * h + 3;
    for (int number : new int[] {0, 100, 9, 7, 1, 101}) h = 31 * h + number;
    due("behind a write: digest", x.digest(), h);
  }

  // ---- 8: "1 none is ABLE, but some have not; 2 600 STEPS were done, and one is ABLE"

  private static CardIndex waiting(int patience) {
    CardIndex x = desk(PLAIN, 2, MAP, DEQUE);
    addActs(x, 3, 2);
    x.act(1, 1, HEAD, 0, 0);
    x.patience(1, 0, patience);
    batons(x, 1, 1);
    return x;
  }

  private static void noneAbleAtTheEnd() {
    for (int patience : new int[] {0, 19, 100}) {
      CardIndex x = waiting(patience);
      due("none is able", x.run(), 1);
      due("none is able: steps", x.count(3), MOST);
      due("none is able: one waits", x.count(5), 1);
      due("none is able: fits", x.fits(0), 1);
      due("none is able: tries", x.tries(), 5);
    }
  }

  private static void ableByPatienceAtTheEnd() {
    CardIndex x = waiting(18);
    due("able, and cut off", x.run(), 2);
    due("able, and cut off: steps", x.count(3), MOST);
    due("able, and cut off: it still waits", x.count(5), 1);
    told("able, and cut off", x, 1, 0, WAITS, 0);
    due("able, and cut off: fits", x.fits(0), NONE);
    x = waiting(17);
    x.baton(MOST - 1, 1);
    due("TIRED with the last step", x.run(), 2);
    told("TIRED with the last step", x, 1, 0, TIRED, 0);
    mark("TIRED with the last step", x, 10, 1, 0, 1, MOST - 1);
    due("TIRED with the last step: none waits", x.count(5), 0);
  }

  // ---- 20: "where NONE is told for more ACTS, or the RUN, it does not"

  private static void stillTriedBefore() {
    CardIndex x = desk(PLAIN, 1, MAP);
    addActs(x, 3, 0);
    x.run();
    due("tried before", x.fits(0), 1);
    addActs(x, 3, 0);
    due("then cut off", x.run(), 2);
    due("then cut off: fits", x.fits(0), NONE);
    due("then cut off: first", x.first(), NONE);
    due("then cut off: tries", x.tries(), 3);
  }

  // ---- 22, 23: RUNS that are cut off are RUNS

  private static void exploringCutOffs() {
    CardIndex x = desk(PLAIN, 1, MAP, MAP);
    addActs(x, 6, 0);
    due("exploring a cut off", x.explore(60), 1);
    int[] found = {1, 1, 0, 1, 1};
    for (int i = 0; i < 5; i++) due("exploring a cut off " + i, x.explored(i), found[i]);
    due("exploring a cut off: the run behind it", x.fits(0), NONE);
    due("exploring a cut off: steps", x.count(3), MOST);
    // Two clerks: steps 0 to 19 are chosen freely, the latest changing first.
    x = desk(BARE, 2, MAP);
    for (int c = 0; c < 2; c++) for (int i = 0; i < 6; i++) x.act(c, 0, PUT, c, i);
    due("exploring many cut offs", x.explore(60), 60);
    int[] foundOfMany = {0, 60, 0, 60};
    for (int i = 0; i < 4; i++) due("exploring many cut offs " + i, x.explored(i), foundOfMany[i]);
  }

  /** Whoever TAKES first goes on alone; if that is clerk 0 it begins to WAIT, and has 2 STEPS more than 20. */
  private static void exploringSomeCutOffs() {
    CardIndex x = desk(PLAIN, 2, DEQUE, MAP);
    x.act(0, 0, HEAD, 0, 0);
    x.act(1, 0, LAST, 5, 0);
    for (int i = 0; i < 3; i++) x.act(0, 1, PUT, i, i);
    due("exploring some cut offs", x.explore(60), 2);
    int[] found = {1, 1, 0, 1, 2};
    for (int i = 0; i < 5; i++) due("exploring some cut offs " + i, x.explored(i), found[i]);
    due("exploring some cut offs: the run behind it", x.mark(0, 0), 0);
    told("exploring some cut offs: the run behind it", x, 0, 3, WAITS, 0);
    x.baton(0, 1);
    due("exploring some cut offs: the other one", x.run(), 0);
  }
}
