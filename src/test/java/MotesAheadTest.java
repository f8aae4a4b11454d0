import java.util.function.IntSupplier;

/** Promises 17 to 21, 25, 30 to 34, 39 to 43, 45, 46: what comes, all set as it is. */
public final class MotesAheadTest {
  private static final int BAD = -2;
  private static final int STUCK = -5;
  private static final int[] WRONG_TIMES = {-1, 25, Integer.MIN_VALUE, Integer.MAX_VALUE};
  /**
   * In an even column it goes up and down between two rows, and the beam is never there; when the
   * last hour has come, it stays down, in the beam, behind 24 steps.
   */
  private static final String LATE_LIT = "mote 0 1 52;open 0;warm 5;hour 976";
  /** Up and down between 30 and 20; when the last hour has come, it goes up twice: to 10. */
  private static final String LATE_LEAD = "mote 3 1 30;open 2;fan 1;hour 977";
  private static final Check CHECK = new Check();

  public static void main(String[] args) {
    moteOf17();
    power17();
    lit18();
    pushes19();
    warmth19();
    heavyAndLead19();
    goldAndSpark19();
    lazy19();
    lastHour19();
    where19();
    votes20();
    when21();
    centre25();
    crowd30();
    thick31();
    arrives32();
    lights33();
    meet34();
    runs39();
    together40();
    round41();
    way42();
    walled43();
    stirred45();
    ofKind46();
    nothingIsChanged();
    CHECK.end();
  }

  /** A new hall by a text. */
  private static MotesHaveASeat hall(String text) {
    MotesHaveASeat x = new MotesHaveASeat();
    CHECK.that(text, Check.read(x, text) > 0);
    return x;
  }

  private static void goes(String text, int... cells) {
    MotesHaveASeat x = hall(text);
    for (int t = 1; t <= cells.length; t++) {
      CHECK.due(text + ": where behind " + t, x.where(0, t), cells[t - 1]);
    }
  }

  private static void moteOf17() {
    MotesHaveASeat x = hall("mote 3 7 22;mote 2 1 23");
    CHECK.due("kind", x.moteOf(0, 0), 3);
    CHECK.due("a", x.moteOf(0, 1), 7);
    CHECK.due("cell", x.moteOf(0, 2), 22);
    CHECK.due("lit", x.moteOf(0, 3), 1);
    CHECK.due("not lit", x.moteOf(1, 3), 0);
    x.tell(2, 1);
    CHECK.due("not lit at hour 1", x.moteOf(0, 3), 0);
    CHECK.due("lit at hour 1", x.moteOf(1, 3), 1);
    CHECK.refused(x, "what 5", BAD, () -> x.moteOf(0, 5));
    CHECK.refused(x, "what -1", BAD, () -> x.moteOf(0, -1));
    CHECK.refused(x, "mote 2", BAD, () -> x.moteOf(2, 0));
    CHECK.refused(x, "mote -1", BAD, () -> x.moteOf(-1, 0));
  }

  private static void power(int[] weights, int... want) {
    MotesHaveASeat x = new MotesHaveASeat();
    for (int a : weights) {
      x.mote(0, a, 0);
    }
    for (int m = 0; m < want.length; m++) {
      CHECK.due("power of " + m, x.moteOf(m, 4), want[m]);
    }
  }

  private static void power17() {
    power(new int[] {4, 2, 1}, 4, 0, 0);
    power(new int[] {1, 1, 1}, 2, 2, 2);
    power(new int[] {2, 2}, 1, 1);
    power(new int[] {2, 5, 5}, 2, 2, 2);
    power(new int[] {1, 0}, 2, 0);
    power(new int[] {0}, 0);
    power(new int[] {5}, 1);
    power(new int[] {9, 9, 9, 9, 9, 9, 9, 9, 9, 9}, 126, 126);
    power(new int[] {9, 0, 0, 0, 0, 0, 0, 0, 0, 0}, 512, 0);
  }

  private static void lit18() {
    MotesHaveASeat x = new MotesHaveASeat();
    CHECK.due("00 at 0", x.lit(0, 0), 1);
    CHECK.due("55 at 0", x.lit(55, 0), 1);
    CHECK.due("01 at 0", x.lit(1, 0), 0);
    CHECK.due("01 at 1", x.lit(1, 1), 1);
    CHECK.due("50 at 1", x.lit(50, 1), 1);
    CHECK.due("03 at 999", x.lit(3, 999), 1);
    x.tell(3, 6);
    CHECK.due("beam 6 is once round", x.lit(22, 0), 1);
    x.tell(3, 5);
    CHECK.due("beam 5", x.lit(21, 0), 1);
    x.side(7);
    CHECK.due("beam 5 of seven", x.lit(20, 0), 1);
    CHECK.due("of seven at 999", x.lit(3, 999), 1);
    CHECK.due("hour is as it was", x.status(5), 0);
    CHECK.refused(x, "cell 67", BAD, () -> x.lit(67, 0));
    CHECK.refused(x, "cell -1", BAD, () -> x.lit(-1, 0));
    CHECK.refused(x, "hour 1000", BAD, () -> x.lit(0, 1000));
    CHECK.refused(x, "hour -1", BAD, () -> x.lit(0, -1));
  }

  private static void pushes19() {
    goes("mote 0 1 22", 22, 22);
    goes("mote 0 1 22;open 0", 32, 42, 52, 52);
    goes("mote 0 1 22;open 1", 21, 20, 20);
    goes("mote 0 1 22;open 2", 12, 2, 2);
    goes("mote 0 1 22;open 3", 23, 24, 25, 25);
    goes("mote 0 1 22;fan 1", 12, 2, 2);
    goes("mote 0 1 22;fan 2", 23, 24, 25, 25);
    goes("mote 0 1 22;fan 3", 32, 42, 52, 52);
    goes("mote 0 1 22;fan 4", 21, 20, 20);
    goes("mote 0 1 22;open 0;open 1;fan 3", 41, 50, 50);
    // Door by door, then the fan: a push against the wall is lost, the one behind it is not.
    goes("mote 0 1 52;open 0;open 2", 42, 42);
    goes("mote 0 1 2;open 0;open 2", 2);
    goes("mote 0 1 20;open 1;open 3", 21);
    goes("mote 0 1 25;open 1;open 3", 25);
    goes("mote 0 1 25;open 3;fan 4", 24);
    goes("mote 0 1 20;open 3;fan 4", 20);
    goes("mote 0 1 2;open 2;fan 3", 12);
    goes("side 7;mote 0 1 55;open 0;open 3", 66, 66);
    goes("mote 0 1 45;fan 3", 55, 55);
  }

  private static void warmth19() {
    goes("mote 0 1 42;warm 5", 32, 32, 22, 22);
    goes("mote 0 1 42;warm 4", 42, 42);
    goes("mote 0 1 42;warm 9;hour 1", 42, 32);
    goes("mote 0 1 2;warm 5", 2, 2);
    goes("mote 0 1 10;warm 5", 0);
    goes("mote 0 1 2;warm 5;open 0", 2, 12);
    goes("mote 0 1 52;warm 5;open 0", 42, 52, 42);
  }

  private static void heavyAndLead19() {
    goes("mote 1 1 22;open 3;fan 3;warm 9", 22, 33, 33, 44);
    goes("mote 1 1 22;open 3;hour 1", 23, 23, 24);
    goes("mote 3 1 2;open 3;warm 9", 12, 23, 33, 44, 54, 55);
    goes("mote 3 1 52;fan 1", 52, 52, 52);
    goes("mote 3 1 45", 55, 55);
    goes("mote 3 1 52;hour 1;open 2;fan 1", 42, 52);
  }

  private static void goldAndSpark19() {
    goes("mote 2 1 22;open 0", 22, 32, 42);
    goes("mote 2 1 21;open 0", 31, 41);
    goes("mote 2 1 42;warm 5", 32);
    goes("mote 2 1 22;warm 5", 22);
    // Held while lit: the beam has come to 34 by hour 1.
    goes("mote 2 1 33;fan 2;hour 5", 34, 35);
    goes("mote 2 1 33;fan 2;hour 0", 33, 34);
    goes("mote 4 1 22;open 0", 22);
    goes("mote 4 1 20", 21, 22, 23);
    goes("mote 4 1 25", 24, 23, 24);
    goes("mote 4 1 20;open 0", 31);
    goes("mote 4 1 45", 44);
    // Behind the push it stands where the beam was: it stays.
    goes("mote 4 1 23;open 1", 22);
    goes("mote 4 1 32;warm 5", 22);
    goes("mote 4 1 42;warm 5", 33);
    goes("mote 4 1 0;hour 5", 1);
    goes("mote 4 1 5;hour 6", 4);
  }

  private static void lazy19() {
    goes("mote 5 1 22;open 0;fan 2;warm 9", 32, 42);
    goes("mote 5 1 22;fan 2;warm 9", 22, 22);
    goes("mote 5 1 52;open 0;open 2;open 3", 43);
  }

  private static void lastHour19() {
    goes("mote 1 1 20;open 3;hour 997", 21, 21, 22, 23, 24);
    goes("mote 0 1 52;warm 5;hour 998", 42, 42, 42);
    MotesHaveASeat x = hall("mote 0 1 3;hour 998");
    CHECK.due("not lit at 998", x.votes(0, 2), 0);
    CHECK.due("lit at 999", x.votes(1, 2), 1);
    CHECK.due("lit at 999 for ever", x.votes(24, 2), 1);
  }

  private static void where19() {
    MotesHaveASeat x = hall("mote 0 1 20;mote 0 1 30;open 3");
    CHECK.due("where now", x.where(0, 0), 20);
    CHECK.due("where behind 24", x.where(1, 24), 35);
    for (int t : WRONG_TIMES) {
      CHECK.refused(x, "t " + t, BAD, () -> x.where(0, t));
    }
    CHECK.refused(x, "mote 2", BAD, () -> x.where(2, 0));
    CHECK.refused(x, "mote -1", BAD, () -> x.where(-1, 0));
  }

  private static void votes20() {
    MotesHaveASeat x = hall("mote 0 4 0;mote 0 3 11;mote 0 2 12;mote 0 5 34");
    CHECK.due("votes", x.votes(0, 0), 7);
    CHECK.due("just half does not carry", x.votes(0, 1), 0);
    CHECK.due("lit", x.votes(0, 2), 2);
    CHECK.due("votes behind 1", x.votes(1, 0), 7);
    CHECK.due("votes behind 6", x.votes(6, 0), 7);
    CHECK.due("votes behind 3", x.votes(3, 0), 0);
    x.mote(0, 1, 22);
    CHECK.due("more than half carries", x.votes(0, 1), 1);
    CHECK.due("less does not", x.votes(1, 1), 0);
    for (int t : WRONG_TIMES) {
      CHECK.refused(x, "t " + t, BAD, () -> x.votes(t, 0));
    }
    CHECK.refused(x, "what 3", BAD, () -> x.votes(0, 3));
    CHECK.refused(x, "what -1", BAD, () -> x.votes(0, -1));
  }

  private static void when21() {
    MotesHaveASeat x = hall("mote 0 1 20");
    CHECK.due("first", x.when(0), 4);
    CHECK.due("best", x.when(1), 4);
    CHECK.due("votes by that", x.when(2), 1);
    // It goes along with the beam, until the wall; the other one stands at the wall already.
    MotesHaveASeat y = hall("mote 0 3 0;mote 0 2 15;open 3");
    CHECK.due("first", y.when(0), 0);
    CHECK.due("best", y.when(1), 4);
    CHECK.due("votes by that", y.when(2), 5);
    MotesHaveASeat z = hall("mote 0 9 0;hour 999");
    CHECK.due("never", z.when(0), -1);
    CHECK.due("best of none", z.when(1), 0);
    CHECK.due("none", z.when(2), 0);
    CHECK.due("NONE is not refused", z.status(12), 0);
    MotesHaveASeat late = hall(LATE_LIT);
    CHECK.due("first at the last", late.when(0), 24);
    CHECK.due("best at the last", late.when(1), 24);
    late.tell(2, 975);
    late.put(0, 42);
    CHECK.due("too late", late.when(0), -1);
    CHECK.refused(x, "when(3)", BAD, () -> x.when(3));
    CHECK.refused(x, "when(-1)", BAD, () -> x.when(-1));
  }

  private static void centre25() {
    MotesHaveASeat x = hall("mote 0 1 0;mote 0 1 23;mote 0 1 55;open 3");
    CHECK.due("rows", x.centre(0, 0), 2333);
    CHECK.due("columns", x.centre(0, 1), 2666);
    CHECK.due("spread", x.centre(0, 2), 10);
    CHECK.due("columns behind 1", x.centre(1, 1), 3333);
    CHECK.due("spread behind 1", x.centre(1, 2), 9);
    MotesHaveASeat two = hall("mote 0 1 5;mote 0 1 50");
    CHECK.due("spread across", two.centre(0, 2), 10);
    CHECK.due("rows", two.centre(0, 0), 2500);
    int[][] spreads = {{10, 5, 6}, {45, 10, 8}, {5, 54, 6}, {31, 45, 5}, {33, 34, 1}};
    for (int[] spread : spreads) {
      two.put(0, spread[0]);
      two.put(1, spread[1]);
      CHECK.due("spread", two.centre(0, 2), spread[2]);
      CHECK.due("rows", two.centre(0, 0), 500 * (spread[0] / 10 + spread[1] / 10));
    }
    MotesHaveASeat one = hall("mote 0 1 55");
    CHECK.due("spread of one", one.centre(0, 2), 0);
    CHECK.due("rows of one", one.centre(0, 0), 5000);
    MotesHaveASeat none = new MotesHaveASeat();
    CHECK.due("spread of none", none.centre(24, 2), 0);
    CHECK.refused(none, "no motes", STUCK, () -> none.centre(0, 0));
    CHECK.refused(none, "no motes", STUCK, () -> none.centre(24, 1));
    CHECK.refused(none, "bad ahead of stuck", BAD, () -> none.centre(25, 0));
    for (int t : WRONG_TIMES) {
      CHECK.refused(x, "t " + t, BAD, () -> x.centre(t, 2));
    }
    CHECK.refused(x, "what 3", BAD, () -> x.centre(0, 3));
    CHECK.refused(x, "what -1", BAD, () -> x.centre(0, -1));
  }

  private static void crowd30() {
    MotesHaveASeat x = hall("mote 0 1 20;mote 5 1 21;mote 0 1 21;fan 2");
    CHECK.due("crowd", x.crowd(21, 0), 2);
    CHECK.due("crowd behind 1", x.crowd(21, 1), 2);
    CHECK.due("crowd behind 2", x.crowd(21, 2), 1);
    CHECK.due("crowd at the wall", x.crowd(25, 24), 2);
    CHECK.due("nobody", x.crowd(0, 0), 0);
    for (int t : WRONG_TIMES) {
      CHECK.refused(x, "t " + t, BAD, () -> x.crowd(0, t));
    }
    CHECK.refused(x, "cell 6", BAD, () -> x.crowd(6, 0));
    CHECK.refused(x, "cell 60", BAD, () -> x.crowd(60, 0));
    CHECK.refused(x, "cell -1", BAD, () -> x.crowd(-1, 0));
  }

  private static void thick31() {
    CHECK.due("of none", new MotesHaveASeat().thick(24), 0);
    MotesHaveASeat x = hall("mote 0 1 33;mote 5 1 11;mote 0 1 33;mote 5 1 11;fan 2");
    CHECK.due("of several the first", x.thick(0), 11);
    x.mote(0, 1, 33);
    CHECK.due("most", x.thick(0), 33);
    CHECK.due("most behind 2", x.thick(2), 35);
    CHECK.due("of several the first, in another order",
        hall("mote 0 1 11;mote 0 1 33;mote 0 1 11;mote 0 1 33").thick(0), 11);
    CHECK.due("most, though not first",
        hall("mote 0 1 33;mote 0 1 33;mote 0 1 11").thick(0), 33);
    CHECK.due("one alone", hall("mote 0 1 45").thick(0), 45);
    for (int t : WRONG_TIMES) {
      CHECK.refused(x, "t " + t, BAD, () -> x.thick(t));
    }
  }

  private static void arrives32() {
    MotesHaveASeat x = hall("mote 5 1 0;mote 0 1 20;open 3");
    CHECK.due("now", x.arrives(1, 20), 0);
    CHECK.due("behind 5", x.arrives(1, 25), 5);
    CHECK.due("never", x.arrives(1, 30), -1);
    CHECK.due("the other one", x.arrives(0, 2), 2);
    CHECK.due("at the last", hall(LATE_LEAD).arrives(0, 10), 24);
    CHECK.due("too late", hall("mote 3 1 20;open 2;fan 1;hour 976").arrives(0, 10), -1);
    CHECK.due("NONE is not refused", x.status(12), 0);
    CHECK.refused(x, "mote 2", BAD, () -> x.arrives(2, 0));
    CHECK.refused(x, "mote -1", BAD, () -> x.arrives(-1, 0));
    CHECK.refused(x, "cell 56", BAD, () -> x.arrives(0, 56));
    CHECK.refused(x, "cell -1", BAD, () -> x.arrives(0, -1));
  }

  private static void lights33() {
    MotesHaveASeat x = hall("mote 0 1 22;mote 0 1 20;mote 0 1 21");
    CHECK.due("now", x.lights(0), 0);
    CHECK.due("behind 4", x.lights(1), 4);
    CHECK.due("behind 5", x.lights(2), 5);
    CHECK.due("at the last", hall(LATE_LIT).lights(0), 24);
    CHECK.due("too late", hall("mote 0 1 42;open 0;warm 5;hour 975").lights(0), -1);
    x.tell(2, 999);
    CHECK.due("never", x.lights(0), -1);
    CHECK.due("NONE is not refused", x.status(12), 0);
    CHECK.refused(x, "mote 3", BAD, () -> x.lights(3));
    CHECK.refused(x, "mote -1", BAD, () -> x.lights(-1));
  }

  private static void meet34() {
    MotesHaveASeat x = hall("mote 0 1 20;mote 5 1 25;mote 0 1 20;mote 5 1 35;fan 2");
    CHECK.due("behind 5", x.meet(0, 1), 5);
    CHECK.due("the other way", x.meet(1, 0), 5);
    CHECK.due("now", x.meet(0, 2), 0);
    CHECK.due("never", x.meet(0, 3), -1);
    // The other one goes between 10 and 20, a row ahead, until the wall keeps it in 10.
    CHECK.due("at the last", hall(LATE_LEAD + ";mote 3 1 10").meet(0, 1), 24);
    CHECK.due("NONE is not refused", x.status(12), 0);
    CHECK.refused(x, "the same", BAD, () -> x.meet(1, 1));
    CHECK.refused(x, "mote 4", BAD, () -> x.meet(0, 4));
    CHECK.refused(x, "mote -1", BAD, () -> x.meet(-1, 0));
    CHECK.refused(x, "both -1", BAD, () -> x.meet(-1, -1));
  }

  private static void runs39() {
    MotesHaveASeat x = hall("mote 0 1 0");
    CHECK.due("now alone", x.runs(0), 1);
    CHECK.due("to 5", x.runs(5), 1);
    CHECK.due("to 6", x.runs(6), 2);
    CHECK.due("to 23", x.runs(23), 4);
    CHECK.due("to 24", x.runs(24), 5);
    for (int t : WRONG_TIMES) {
      CHECK.refused(x, "t " + t, BAD, () -> x.runs(t));
    }
  }

  private static void together40() {
    MotesHaveASeat x = hall("mote 0 1 0;mote 5 0 11;mote 0 1 1;mote 0 1 30");
    CHECK.due("both", x.together(0, 1), 5);
    CHECK.due("never both", x.together(0, 2), 0);
    x.tell(2, 3);
    CHECK.due("both from hour 3 on", x.together(0, 1), 4);
    CHECK.refused(x, "the same", BAD, () -> x.together(1, 1));
    CHECK.refused(x, "mote 4", BAD, () -> x.together(4, 0));
    CHECK.refused(x, "mote -1", BAD, () -> x.together(0, -1));
  }

  private static void round41() {
    CHECK.due("of none", new MotesHaveASeat().round(), 1);
    CHECK.due("still", hall("mote 0 1 22").round(), 1);
    CHECK.due("to and fro", hall("mote 0 1 52;open 0;warm 5").round(), 2);
    CHECK.due("heavy, still at even hours", hall("mote 1 1 22;open 0").round(), 1);
    MotesHaveASeat x = hall("mote 0 1 22;mote 1 1 55;open 0");
    CHECK.due("never", x.round(), -1);
    CHECK.due("NONE is not refused", x.status(12), 0);
    // One is back behind two steps, but the other one has gone to the bottom for good.
    CHECK.due("all of them", hall("mote 0 1 52;mote 5 1 33;open 0;warm 5").round(), -1);
    CHECK.due("at the last", hall("mote 4 1 41;open 3;fan 4;hour 977").round(), 24);
  }

  private static void way42() {
    MotesHaveASeat x = hall("mote 0 1 20;mote 5 1 55;mote 1 1 0;open 3");
    CHECK.due("six", x.way(0), 6);
    CHECK.due("one", x.way(1), 1);
    CHECK.due("heavy: six too", x.way(2), 6);
    CHECK.due("to and fro", hall("mote 0 1 52;open 0;warm 5").way(0), 2);
    CHECK.due("the third one at the last", hall(LATE_LEAD).way(0), 3);
    CHECK.due("the third one too late", hall("mote 3 1 20;open 2;fan 1;hour 976").way(0), 2);
    CHECK.due("beyond 64", hall("side 7;mote 0 1 60;open 3").way(0), 7);
    CHECK.refused(x, "mote 3", BAD, () -> x.way(3));
    CHECK.refused(x, "mote -1", BAD, () -> x.way(-1));
  }

  private static void walled43() {
    MotesHaveASeat x = hall("mote 5 1 0;mote 0 1 22;mote 5 1 5;mote 5 1 50;mote 5 1 35;"
        + "mote 5 1 44;mote 5 1 3;mote 5 1 53;fan 1");
    CHECK.due("walled", x.walled(0), 6);
    CHECK.due("behind 1", x.walled(1), 6);
    CHECK.due("behind 2", x.walled(2), 7);
    x.side(7);
    CHECK.due("of seven", x.walled(0), 4);
    CHECK.due("54 of seven", hall("side 7;mote 0 1 54;mote 0 1 45").walled(0), 0);
    CHECK.due("of none", new MotesHaveASeat().walled(24), 0);
    for (int t : WRONG_TIMES) {
      CHECK.refused(x, "t " + t, BAD, () -> x.walled(t));
    }
  }

  private static void stirred45() {
    MotesHaveASeat x = hall("mote 0 1 22;mote 1 1 22;mote 3 1 52;mote 5 1 33;mote 2 1 22;"
        + "mote 4 1 33;mote 0 1 52;open 0");
    CHECK.due("stirred", x.stirred(), 9);
    x.tell(2, 1);
    CHECK.due("at hour 1", x.stirred(), 1 + 2 + 8 + 16 + 32);
    CHECK.due("of none", new MotesHaveASeat().stirred(), 0);
  }

  private static void ofKind46() {
    MotesHaveASeat x = hall("mote 1 1 22;mote 3 1 22;mote 3 1 52;mote 5 1 33;mote 4 1 22");
    int[] many = {0, 1, 0, 2, 1, 1};
    for (int kind = 0; kind <= 5; kind++) {
      CHECK.due("of kind " + kind, x.ofKind(kind), many[kind]);
    }
    CHECK.refused(x, "kind 6", BAD, () -> x.ofKind(6));
    CHECK.refused(x, "kind -1", BAD, () -> x.ofKind(-1));
  }

  /** A full hall; each question is asked behind each other one, and answers as it did at first. */
  private static void nothingIsChanged() {
    MotesHaveASeat x = hall("mote 0 1 22;mote 3 3 2;mote 4 2 10;open 0;open 3;fan 1;warm 6;"
        + "mote 2 4 43;mote 5 5 20;mote 1 9 31;mote 0 2 54;mote 3 7 40;mote 4 6 25;mote 2 8 1");
    String ahead = Check.seen(x);
    IntSupplier[] questions = {() -> x.moteOf(0, 4), () -> x.lit(0, 500), () -> x.where(1, 24),
        () -> x.votes(24, 0), () -> x.votes(3, 1), () -> x.votes(5, 2), () -> x.when(0),
        () -> x.when(1), () -> x.when(2), () -> x.centre(24, 0), () -> x.centre(2, 1),
        () -> x.centre(3, 2), () -> x.crowd(55, 9), () -> x.thick(4), () -> x.arrives(1, 52),
        () -> x.lights(1), () -> x.meet(0, 1), () -> x.runs(24), () -> x.together(1, 2), x::round,
        () -> x.way(1), () -> x.walled(24), x::stirred, () -> x.ofKind(3)};
    int[] first = new int[questions.length];
    for (int i = 0; i < questions.length; i++) {
      first[i] = questions[i].getAsInt();
      CHECK.that("question " + i + " is answered", first[i] >= -1);
      CHECK.that("nothing is changed by " + i, ahead.equals(Check.seen(x)));
    }
    for (int i = 0; i < questions.length; i++) {
      for (int j = 0; j < questions.length; j++) {
        questions[i].getAsInt();
        CHECK.due("question " + j + " behind " + i, questions[j].getAsInt(), first[j]);
      }
    }
  }
}
