/** Promises 47 to 55: told sessions, steps and hours in truth, images and the status. */
public final class MotesTruthTest {
  private static final int BAD = -2;
  private static final int OTHER = -3;
  private static final int NOTHING = -4;
  private static final int STUCK = -5;
  private static final Check CHECK = new Check();

  public static void main(String[] args) {
    judge47();
    judgeRefusals47();
    behind48();
    behindRefusals48();
    done49();
    doneRefusals49();
    steps50();
    hours51();
    draws51();
    seed52();
    image53();
    back54();
    backShelves54();
    status55();
    CHECK.end();
  }

  private static MotesHaveASeat hall(String text) {
    MotesHaveASeat x = new MotesHaveASeat();
    CHECK.that(text, Check.read(x, text) > 0);
    return x;
  }

  private static void judged(int sort, int want, long... told) {
    MotesHaveASeat x = new MotesHaveASeat();
    Check.fill(x, 3, sort, told);
    CHECK.due("judge", x.judge(3, told.length), want);
    CHECK.due("NONE is not refused", x.status(12), 0);
  }

  private static void judge47() {
    judged(2, -1);
    judged(2, -1, 0, 4, 10, 154, 90);
    judged(2, 2, 0, 154, 155, 155);
    judged(2, 0, 5);
    judged(2, 0, 9);
    judged(2, 1, 0, 160);
    judged(2, 1, 0, -1);
    judged(2, 1, 14, 15, 16);
    judged(2, 0, Integer.MIN_VALUE);
    judged(2, 0, Integer.MAX_VALUE);
    judged(3, 0, 1L << 32);
    judged(3, 0, Long.MIN_VALUE);
    judged(3, 0, Long.MAX_VALUE);
    judged(3, 0, -10);
    judged(2, -1, 1L << 32);
    judged(0, 1, 124, 154);
    judged(4, -1, 1, 0, 1);
    MotesHaveASeat x = new MotesHaveASeat();
    Check.fill(x, 0, 1, 0, 0, 5, 0);
    CHECK.due("the first two", x.judge(0, 2), -1);
    CHECK.due("the first three", x.judge(0, 3), 2);
    x.row(0, 1, 40);
    CHECK.due("forty", x.judge(0, 40), -1);
    x.set(0, 39, 5);
    CHECK.due("the last of forty", x.judge(0, 40), 39);
  }

  private static void judgeRefusals47() {
    MotesHaveASeat x = hall("mote 0 1 0");
    x.show(1, 0);
    x.row(2, 0, 2);
    CHECK.refused(x, "n ahead of other", BAD, () -> x.judge(1, 41));
    CHECK.refused(x, "n ahead of nothing", BAD, () -> x.judge(0, -1));
    CHECK.refused(x, "shelf 8", BAD, () -> x.judge(8, 0));
    CHECK.refused(x, "shelf -1", BAD, () -> x.judge(-1, 0));
    CHECK.refused(x, "a mote", OTHER, () -> x.judge(1, 0));
    CHECK.refused(x, "nothing", NOTHING, () -> x.judge(0, 0));
    CHECK.refused(x, "too few", BAD, () -> x.judge(2, 3));
  }

  /** Down by door 0; right by the fan; right by door 3 and up by the fan. */
  private static void behind48() {
    MotesHaveASeat x = hall("mote 0 3 22;mote 5 2 11;open 1;fan 4");
    Check.fill(x, 0, 1, 10, 2, 81, 5);
    int[] first = {22, 32, 33, 24};
    int[] lazy = {11, 21, 21, 22};
    String ahead = Check.seen(x);
    for (int n = 0; n <= 3; n++) {
      CHECK.due("where 0 behind " + n, x.behind(0, n, 10), first[n]);
      CHECK.due("where 1 behind " + n, x.behind(0, n, 11), lazy[n]);
    }
    CHECK.due("votes of none", x.behind(0, 0, 0), 5);
    CHECK.due("carries", x.behind(0, 0, 1), 1);
    CHECK.due("votes", x.behind(0, 3, 0), 0);
    CHECK.due("does not carry", x.behind(0, 3, 1), 0);
    x.tell(3, 5);
    CHECK.due("votes by another beam", x.behind(0, 3, 0), 3);
    CHECK.due("carries by it", x.behind(0, 3, 1), 1);
    x.tell(3, 0);
    CHECK.that("nothing is changed", ahead.equals(Check.seen(x)));
  }

  private static void behindRefusals48() {
    MotesHaveASeat x = hall("mote 0 3 22;mote 5 2 11");
    x.show(1, 0);
    Check.fill(x, 2, 2, 0, 1, 5);
    for (int what : new int[] {-1, 2, 9, 12, 19, 20, Integer.MIN_VALUE, Integer.MAX_VALUE}) {
      CHECK.refused(x, "what " + what + " ahead of other", BAD, () -> x.behind(1, 0, what));
      CHECK.refused(x, "what " + what, BAD, () -> x.behind(2, 0, what));
    }
    CHECK.refused(x, "n 41", BAD, () -> x.behind(1, 41, 0));
    CHECK.refused(x, "n -1", BAD, () -> x.behind(0, -1, 0));
    CHECK.refused(x, "shelf 8", BAD, () -> x.behind(8, 0, 0));
    CHECK.refused(x, "a mote", OTHER, () -> x.behind(1, 0, 0));
    CHECK.refused(x, "nothing", NOTHING, () -> x.behind(0, 0, 0));
    CHECK.refused(x, "too few ahead of wrong", BAD, () -> x.behind(2, 4, 0));
    CHECK.refused(x, "wrong", STUCK, () -> x.behind(2, 3, 10));
    CHECK.due("not wrong so far", x.behind(2, 2, 10), 12);
  }

  private static void done49() {
    MotesHaveASeat x = hall("mote 0 3 22;mote 5 2 11;open 1;fan 4;beam 5");
    Check.fill(x, 0, 1, 10, 2, 81);
    CHECK.due("none: as it is", x.done(0, 0), 0);
    CHECK.due("hour", x.status(5), 0);
    CHECK.due("doors", x.status(2), 2);
    CHECK.due("fan", x.status(3), 4);
    CHECK.due("done", x.done(0, 3), 3);
    CHECK.due("where 0 is", x.moteOf(0, 2), 24);
    CHECK.due("where 1 is", x.moteOf(1, 2), 22);
    CHECK.due("hour then", x.status(5), 3);
    CHECK.due("the last doors stay", x.status(2), 8);
    CHECK.due("the last fan stays", x.status(3), 1);
    CHECK.due("the row is as it was", x.element(0, 2), 81);
  }

  private static void doneRefusals49() {
    MotesHaveASeat x = hall("mote 0 3 22");
    x.show(1, 0);
    Check.fill(x, 2, 2, 10, 1, 5);
    CHECK.refused(x, "n 41", BAD, () -> x.done(1, 41));
    CHECK.refused(x, "n -1", BAD, () -> x.done(0, -1));
    CHECK.refused(x, "shelf 8", BAD, () -> x.done(8, 0));
    CHECK.refused(x, "shelf -1", BAD, () -> x.done(-1, 0));
    CHECK.refused(x, "a mote", OTHER, () -> x.done(1, 0));
    CHECK.refused(x, "nothing", NOTHING, () -> x.done(0, 0));
    CHECK.refused(x, "too few ahead of wrong", BAD, () -> x.done(2, 4));
    CHECK.refused(x, "wrong: not even the first ones", STUCK, () -> x.done(2, 3));
  }

  private static void steps50() {
    MotesHaveASeat x = hall("mote 0 3 0;mote 0 2 15;open 3");
    CHECK.due("one", x.steps(1), 3);
    CHECK.due("where", x.moteOf(0, 2), 1);
    CHECK.due("hour", x.status(5), 1);
    CHECK.due("three more", x.steps(3), 5);
    CHECK.due("where then", x.moteOf(0, 2), 4);
    CHECK.due("twenty-four more", x.steps(24), 2);
    CHECK.due("hour then", x.status(5), 28);
    CHECK.due("doors", x.status(2), 8);
    x.tell(2, 990);
    x.steps(24);
    CHECK.due("999 at most", x.status(5), 999);
    CHECK.refused(x, "steps(0)", BAD, () -> x.steps(0));
    CHECK.refused(x, "steps(25)", BAD, () -> x.steps(25));
    CHECK.refused(x, "steps(-1)", BAD, () -> x.steps(-1));
  }

  private static void hours51() {
    MotesHaveASeat x = hall("mote 1 3 0;chance 0;open 2;fan 1");
    CHECK.due("lit behind 6, 12 and so on", x.hours(60), 10);
    CHECK.due("hour", x.status(5), 60);
    CHECK.due("all shut", x.status(2), 0);
    CHECK.due("fan", x.status(3), 1);
    x.tell(4, 12);
    CHECK.due("one hour", x.hours(1), 0);
    CHECK.due("all open", x.status(2), 15);
    MotesHaveASeat last = hall("mote 1 3 3;hour 999;chance 0");
    CHECK.due("at the last hour each time", last.hours(7), 7);
    CHECK.refused(x, "hours(0)", BAD, () -> x.hours(0));
    CHECK.refused(x, "hours(61)", BAD, () -> x.hours(61));
    CHECK.refused(x, "hours(-1)", BAD, () -> x.hours(-1));
  }

  /** From seed 1 the draws' upper halves are 16838, 38526, 10113, 50283: 2, 6, 9, 3 below 12. */
  private static void draws51() {
    int[][] opens = {{3, 1}, {2, 0}, {4, 1 + 8}, {6, 1 + 8}, {7, 1 + 2 + 8}, {9, 1 + 2 + 8},
        {10, 15}};
    for (int[] open : opens) {
      MotesHaveASeat x = new MotesHaveASeat();
      x.tell(4, open[0]);
      x.hours(1);
      CHECK.due("doors by chance " + open[0], x.status(2), open[1]);
      int seed = 1;
      for (int i = 0; i < 4; i++) {
        seed = seed * 1103515245 + 12345;
      }
      CHECK.due("the seed behind four draws", x.status(10), seed);
    }
    // The doors are drawn ahead of the step: door 0 alone is open, and pushes down.
    MotesHaveASeat x = hall("mote 5 4 3");
    CHECK.due("hours", x.hours(1), 0);
    CHECK.due("where", x.moteOf(0, 2), 13);
    MotesHaveASeat y = hall("mote 5 4 2");
    CHECK.due("lit behind the step", y.hours(1), 1);
  }

  private static void seed52() {
    MotesHaveASeat x = new MotesHaveASeat();
    CHECK.due("at first", x.seed(Integer.MIN_VALUE), 1);
    CHECK.due("status", x.status(10), Integer.MIN_VALUE);
    CHECK.due("then", x.seed(-2), Integer.MIN_VALUE);
    CHECK.due("again", x.seed(0), -2);
    x.tell(4, 1);
    x.hours(1);
    // 12345 has no upper half: the first draw is 0.
    CHECK.due("door 0 is open", x.status(2) & 1, 1);
  }

  private static void image53() {
    MotesHaveASeat x = hall("mote 0 3 22;open 1");
    x.row(0, 0, 2);
    String ahead = Check.seen(x);
    CHECK.due("image", x.image(), 1);
    CHECK.that("nothing else", ahead.equals(Check.seen(x)));
    x.steps(3);
    CHECK.due("a later image", x.image(), 1);
    x.steps(3);
    x.back();
    CHECK.due("back to the later one", x.status(5), 3);
  }

  private static void back54() {
    MotesHaveASeat x = new MotesHaveASeat();
    CHECK.refused(x, "nothing was kept", STUCK, x::back);
    x.mote(2, 7, 12);
    x.seed(77);
    x.image();
    x.row(5, 0, 2);
    x.set(5, 1, 9);
    String kept = Check.seen(x);
    Check.read(x, "side 7;mote 1 1 66;open 0;fan 2;warm 3;beam 4;hour 5;chance 6");
    x.put(0, 64);
    x.hours(5);
    x.side(99);
    x.feed('f');
    int refusals = x.status(12);
    CHECK.due("back", x.back(), 1);
    CHECK.that("all is as it was", kept.equals(Check.seen(x)));
    CHECK.due("the tape is as it is", x.status(9), 1);
    CHECK.due("refusals are as they are", x.status(12), refusals);
    CHECK.refused(x, "the side is 6 again", -2, () -> x.put(0, 66));
    x.set(5, 1, 8);
    x.steps(2);
    CHECK.due("back once more", x.back(), 1);
    CHECK.due("hour", x.status(5), 0);
    CHECK.due("a row stays as it is", x.element(5, 1), 8);
  }

  private static void backShelves54() {
    MotesHaveASeat x = hall("mote 0 1 0;mote 1 2 11");
    x.show(6, 1);
    x.image();
    x.mote(2, 3, 22);
    x.show(0, 2);
    x.show(6, -1);
    x.show(1, 2);
    x.show(2, 0);
    x.show(3, 1);
    x.row(4, 3, 4);
    x.put(0, 55);
    CHECK.due("back", x.back(), 1);
    int[] holds = {-1, -1, 10, 11, 3, -1, -1, -1};
    for (int s = 0; s < 8; s++) {
      CHECK.due("shelf " + s, x.holds(s), holds[s]);
    }
    CHECK.due("shelves", x.status(11), 3);
    CHECK.due("says nothing", x.says(1, 0), NOTHING);
    CHECK.due("the next one has the number again", x.mote(5, 0, 0), 2);
    CHECK.due("but stands in no shelf", x.holds(1), -1);
  }

  private static void status55() {
    MotesHaveASeat x = hall("side 7;mote 0 3 22;mote 1 4 66;open 1;open 3;fan 4;warm 9;hour 998;"
        + "beam 6;chance 12");
    x.seed(-5);
    x.feed('a');
    x.feed('b');
    x.row(0, 0, 0);
    x.show(7, 1);
    int[] want = {2, 7, 10, 4, 9, 998, 6, 12, 7, 2, -5, 2};
    for (int what = 0; what < want.length; what++) {
      CHECK.due("status(" + what + ")", x.status(what), want[what]);
    }
    for (int i = 0; i < 8; i++) {
      x.mote(0, 0, 0);
    }
    for (int i = 0; i < 4; i++) {
      x.put(99, 0);
      x.set(i < 3 ? 7 : 0, 0, 0);
    }
    x.set(1, 0, 0);
    x.set(1, 0, 0);
    x.back();
    x.mote(0, 0, 0);
    x.mote(0, 0, 0);
    x.hall();
    int[] refusals = {6, 3, 2, 1, 2};
    for (int i = 0; i < refusals.length; i++) {
      CHECK.due("status(" + (12 + i) + ")", x.status(12 + i), refusals[i]);
    }
    int[] none = {-1, 17, 18, 100, Integer.MIN_VALUE, Integer.MAX_VALUE};
    for (int what : none) {
      CHECK.due("status(" + what + ")", x.status(what), -1);
    }
    CHECK.due("nothing was refused by it", x.status(12), 6);
  }
}
