/** Promises 1 to 8: a new object, and what its shelves hold. */
public final class MotesShelfTest {
  private static final int BAD = -2;
  private static final int OTHER = -3;
  private static final int NOTHING = -4;
  private static final Check CHECK = new Check();

  public static void main(String[] args) {
    newObject1();
    row2();
    set3();
    setRefusals3();
    copy4();
    copyRefusals4();
    element5();
    holds6();
    show7();
    says8();
    saysRefusals8();
    CHECK.end();
  }

  private static void newObject1() {
    MotesHaveASeat x = new MotesHaveASeat();
    int[] first = {0, 6, 0, 0, 0, 0, 0, 3, 0, 0, 1, 0, 0, 0, 0, 0, 0};
    for (int what = 0; what < first.length; what++) {
      CHECK.due("status(" + what + ") at first", x.status(what), first[what]);
    }
    for (int s = 0; s < 8; s++) {
      CHECK.due("holds(" + s + ") at first", x.holds(s), -1);
    }
  }

  private static void row2() {
    MotesHaveASeat x = new MotesHaveASeat();
    for (int sort = 0; sort <= 4; sort++) {
      CHECK.due("row", x.row(sort, sort, sort * 10), 1);
      CHECK.due("holds", x.holds(sort), sort);
      CHECK.due("set behind the last", x.set(sort, sort * 10, 1), BAD);
    }
    CHECK.due("row of 40", x.row(7, 3, 40), 1);
    CHECK.due("set the last", x.set(7, 39, 5), 1);
    CHECK.due("a new row", x.row(7, 3, 40), 1);
    CHECK.due("its last element is 0 again", x.element(7, 39), 0);
    x.mote(0, 1, 0);
    x.show(7, 0);
    CHECK.due("a row where a mote was", x.row(7, 1, 2), 1);
    CHECK.due("holds it", x.holds(7), 1);
    int[][] bad = {{-1, 0, 1}, {8, 0, 1}, {0, -1, 1}, {0, 5, 1}, {0, 0, -1}, {0, 0, 41},
        {Integer.MIN_VALUE, 0, 1}, {0, Integer.MAX_VALUE, 1}, {0, 0, Integer.MIN_VALUE}};
    for (int[] b : bad) {
      CHECK.refused(x, "row of what may not be", BAD, () -> x.row(b[0], b[1], b[2]));
    }
  }

  private static void set3() {
    MotesHaveASeat x = new MotesHaveASeat();
    long[][] kept = {
        {0, 127, 127}, {0, 128, -128}, {0, 511, -1}, {0, -129, 127}, {0, Long.MIN_VALUE, 0},
        {1, 32767, 32767}, {1, 32768, -32768}, {1, 65536, 0},
        {2, 1L << 31, Integer.MIN_VALUE}, {2, 1L << 32, 0}, {2, -1, -1},
        {3, Long.MIN_VALUE, Long.MIN_VALUE}, {3, 1L << 32, 1L << 32},
        {4, 0, 0}, {4, 1, 1}, {4, 2, 1}, {4, 256, 1}, {4, -1, 1}, {4, 1L << 40, 1}};
    for (long[] k : kept) {
      x.row(3, (int) k[0], 2);
      CHECK.due("set", x.set(3, 1, k[1]), 1);
      CHECK.due("sort " + k[0] + " of " + k[1], x.element(3, 1), k[2]);
      CHECK.due("its neighbour", x.element(3, 0), 0);
    }
  }

  private static void setRefusals3() {
    MotesHaveASeat x = new MotesHaveASeat();
    x.mote(0, 0, 0);
    x.show(1, 0);
    x.row(2, 0, 3);
    CHECK.refused(x, "set(-1)", BAD, () -> x.set(-1, 0, 1));
    CHECK.refused(x, "set(8)", BAD, () -> x.set(8, 0, 1));
    CHECK.refused(x, "set of a mote, ahead of its place", OTHER, () -> x.set(1, -1, 1));
    CHECK.refused(x, "set of nothing, ahead of its place", NOTHING, () -> x.set(0, -1, 1));
    CHECK.refused(x, "set at -1", BAD, () -> x.set(2, -1, 1));
    CHECK.refused(x, "set at 3", BAD, () -> x.set(2, 3, 1));
    CHECK.refused(x, "set at MAX", BAD, () -> x.set(2, Integer.MAX_VALUE, 1));
  }

  private static void rowIs(MotesHaveASeat x, int s, long... want) {
    for (int i = 0; i < want.length; i++) {
      CHECK.due("element(" + s + ", " + i + ")", x.element(s, i), want[i]);
    }
  }

  private static void copy4() {
    MotesHaveASeat x = new MotesHaveASeat();
    Check.fill(x, 0, 2, 1, 2, 3, 4, 5);
    Check.fill(x, 1, 2, 0, 0, 0);
    CHECK.due("copy to another", x.copy(0, 1, 2, 1, 2), 2);
    rowIs(x, 1, 0, 3, 4);
    rowIs(x, 0, 1, 2, 3, 4, 5);
    CHECK.due("copy upward in one", x.copy(0, 0, 0, 1, 4), 4);
    rowIs(x, 0, 1, 1, 2, 3, 4);
    CHECK.due("copy downward in one", x.copy(0, 0, 1, 0, 4), 4);
    rowIs(x, 0, 1, 2, 3, 4, 4);
    CHECK.due("copy none", x.copy(0, 1, 0, 0, 0), 0);
    CHECK.due("copy none from the end", x.copy(0, 1, 5, 3, 0), 0);
    rowIs(x, 1, 0, 3, 4);
    for (int sort = 0; sort <= 4; sort++) {
      Check.fill(x, 2, sort, 1, 0, 1);
      x.row(3, sort, 3);
      CHECK.due("copy of a sort", x.copy(2, 3, 0, 0, 3), 3);
      rowIs(x, 3, 1, 0, 1);
    }
    x.row(4, 0, 0);
    CHECK.due("copy of an empty row", x.copy(4, 4, 0, 0, 0), 0);
  }

  private static void copyRefusals4() {
    MotesHaveASeat x = new MotesHaveASeat();
    x.mote(0, 0, 0);
    x.show(1, 0);
    Check.fill(x, 2, 2, 1, 2, 3);
    Check.fill(x, 3, 1, 4, 5, 6);
    CHECK.refused(x, "no shelf ahead of other", BAD, () -> x.copy(1, 8, 0, 0, 1));
    CHECK.refused(x, "no shelf", BAD, () -> x.copy(-1, 2, 0, 0, 1));
    CHECK.refused(x, "from a mote", OTHER, () -> x.copy(1, 2, 0, 0, 1));
    CHECK.refused(x, "to a mote", OTHER, () -> x.copy(2, 1, 0, 0, 1));
    CHECK.refused(x, "a mote ahead of nothing", OTHER, () -> x.copy(0, 1, 0, 0, 1));
    CHECK.refused(x, "nothing behind a mote", OTHER, () -> x.copy(1, 0, 0, 0, 1));
    CHECK.refused(x, "two sorts ahead of places", OTHER, () -> x.copy(2, 3, -1, 0, 1));
    CHECK.refused(x, "from nothing", NOTHING, () -> x.copy(0, 2, -1, 0, 1));
    CHECK.refused(x, "to nothing", NOTHING, () -> x.copy(2, 0, 0, -1, 1));
    CHECK.refused(x, "from and to nothing", NOTHING, () -> x.copy(0, 4, 0, 0, 1));
    int[][] bad = {{-1, 0, 1}, {0, -1, 1}, {0, 0, -1}, {0, 0, 4}, {1, 0, 3}, {0, 1, 3}, {3, 0, 1},
        {4, 0, 0}, {0, 4, 0}, {Integer.MAX_VALUE, 0, Integer.MAX_VALUE},
        {0, Integer.MAX_VALUE, 1}, {Integer.MIN_VALUE, 0, Integer.MIN_VALUE}};
    for (int[] b : bad) {
      CHECK.refused(x, "copy of what may not be", BAD, () -> x.copy(2, 2, b[0], b[1], b[2]));
    }
  }

  private static void element5() {
    MotesHaveASeat x = new MotesHaveASeat();
    x.mote(0, 5, 11);
    x.show(1, 0);
    Check.fill(x, 2, 3, 7, Long.MAX_VALUE);
    CHECK.due("element", x.element(2, 0), 7);
    CHECK.due("the last", x.element(2, 1), Long.MAX_VALUE);
    int[][] none = {{2, 2}, {2, -1}, {2, 40}, {2, Integer.MAX_VALUE}, {1, 0}, {0, 0}, {-1, 0},
        {8, 0}, {Integer.MIN_VALUE, 0}};
    for (int[] n : none) {
      CHECK.due("no element", x.element(n[0], n[1]), 0);
    }
    Check.fill(x, 2, 3, 7);
    CHECK.due("an element of the row ahead", x.element(2, 1), 0);
    for (int what = 12; what <= 16; what++) {
      CHECK.due("nothing was refused", x.status(what), 0);
    }
  }

  private static void holds6() {
    MotesHaveASeat x = new MotesHaveASeat();
    for (int m = 0; m < 10; m++) {
      x.mote(0, 0, 0);
      x.show(5, m);
      CHECK.due("holds a mote", x.holds(5), 10 + m);
    }
    CHECK.due("holds(-1)", x.holds(-1), -1);
    CHECK.due("holds(8)", x.holds(8), -1);
    CHECK.due("holds(MAX)", x.holds(Integer.MAX_VALUE), -1);
    CHECK.due("nothing was refused", x.status(12), 0);
  }

  private static void show7() {
    MotesHaveASeat x = new MotesHaveASeat();
    x.mote(0, 0, 0);
    x.mote(1, 0, 0);
    x.row(0, 0, 3);
    CHECK.due("show", x.show(0, 1), 1);
    CHECK.due("holds", x.holds(0), 11);
    CHECK.due("shelves", x.status(11), 1);
    CHECK.due("show nothing", x.show(0, -1), 1);
    CHECK.due("holds nothing", x.holds(0), -1);
    CHECK.due("shelves then", x.status(11), 0);
    CHECK.due("show nothing where nothing is", x.show(7, -1), 1);
    CHECK.refused(x, "show(0, 2)", BAD, () -> x.show(0, 2));
    CHECK.refused(x, "show(0, -2)", BAD, () -> x.show(0, -2));
    CHECK.refused(x, "show(8, 0)", BAD, () -> x.show(8, 0));
    CHECK.refused(x, "show(-1, -1)", BAD, () -> x.show(-1, -1));
  }

  /** Behind one step from 20 at hour 1 by the upper door: kind by kind. */
  private static void says8() {
    MotesHaveASeat x = new MotesHaveASeat();
    x.door(0, true);
    x.tell(2, 1);
    int[][] above = {{0}, {0, 1}, {0, 2}, {0, 1, 3}, {0, 2, 4}, {0, 5}};
    int[] goesTo = {30, 30, 30, 40, 31, 30};
    for (int own = 0; own <= 5; own++) {
      int m = x.mote(own, 9 - own, 20);
      x.show(own, m);
      for (int kind = 0; kind <= 5; kind++) {
        boolean is = false;
        for (int a : above[own]) {
          is |= a == kind;
        }
        int want = !is ? OTHER : kind == 0 ? 9 - own : goesTo[own];
        CHECK.due("says " + own + " for " + kind, x.says(own, kind), want);
      }
    }
    CHECK.due("OTHER counted", x.status(13), 5 + 4 + 4 + 3 + 3 + 4);
  }

  private static void saysRefusals8() {
    MotesHaveASeat x = new MotesHaveASeat();
    x.mote(2, 1, 0);
    x.show(0, 0);
    x.row(1, 0, 1);
    CHECK.refused(x, "no kind ahead of other", BAD, () -> x.says(1, 6));
    CHECK.refused(x, "kind -1", BAD, () -> x.says(0, -1));
    CHECK.refused(x, "no shelf", BAD, () -> x.says(8, 0));
    CHECK.refused(x, "shelf -1", BAD, () -> x.says(-1, 0));
    CHECK.refused(x, "a row", OTHER, () -> x.says(1, 0));
    CHECK.refused(x, "gold is no spark", OTHER, () -> x.says(0, 4));
    CHECK.refused(x, "gold is not heavy", OTHER, () -> x.says(0, 1));
    CHECK.refused(x, "nothing", NOTHING, () -> x.says(2, 0));
  }
}
