/** Promises 22 to 24, 26 to 29, 35 to 38 and 44: what comes, if something is set otherwise. */
public final class MotesOtherwiseTest {
  private static final int BAD = -2;
  private static final int OTHER = -3;
  private static final int NOTHING = -4;
  private static final int STUCK = -5;
  private static final int[] WRONG_TIMES = {-1, 25, Integer.MIN_VALUE, Integer.MAX_VALUE};
  private static final Check CHECK = new Check();

  public static void main(String[] args) {
    setting22();
    which23();
    whichRefusals23();
    kinds24();
    kindsRefusals24();
    whips26();
    answer27();
    odds28();
    first29();
    beamFor35();
    warmthFor36();
    bestCell37();
    many38();
    doorFor44();
    nothingIsChanged();
    CHECK.end();
  }

  private static MotesHaveASeat hall(String text) {
    MotesHaveASeat x = new MotesHaveASeat();
    CHECK.that(text, Check.read(x, text) > 0);
    return x;
  }

  private static void isSet(String text, int t, int differences, int setting) {
    MotesHaveASeat x = hall(text);
    CHECK.due(text + ": differences", x.setting(t, 0), differences);
    CHECK.due(text + ": the setting", x.setting(t, 1), setting);
    CHECK.due("NONE is not refused", x.status(12), 0);
  }

  /** Behind one step from hour 0 the beam is one column on: 12 and 23 are lit, 22 is not. */
  private static void setting22() {
    isSet("mote 0 1 22", 1, 1, 1);
    isSet("mote 5 1 22", 1, 1, 40);
    isSet("mote 0 1 22;open 0", 1, 2, 1);
    isSet("mote 0 1 22;open 2;fan 3", 1, 1, 40);
    isSet("mote 0 1 22;open 3", 1, 0, 80);
    isSet("mote 0 1 22;open 0;open 2;open 1;open 3;fan 2", 1, 0, 152);
    isSet("mote 0 1 22;open 0;open 1;fan 3", 1, 3, 1);
    isSet("mote 0 1 22;fan 4", 0, 0, 4);
    isSet("mote 0 1 22;hour 1", 0, -1, -1);
    isSet("mote 1 1 22", 1, -1, -1);
    isSet("mote 0 0 22", 1, -1, -1);
    MotesHaveASeat x = hall("mote 0 1 22");
    for (int t : WRONG_TIMES) {
      CHECK.refused(x, "t " + t, BAD, () -> x.setting(t, 0));
    }
    CHECK.refused(x, "what 2", BAD, () -> x.setting(0, 2));
    CHECK.refused(x, "what -1", BAD, () -> x.setting(0, -1));
  }

  private static void comes(MotesHaveASeat x, int t, int many, int least, long... told) {
    for (int sort = 0; sort <= 3; sort++) {
      Check.fill(x, sort, sort, told);
      CHECK.due("how many", x.which(sort, t, 0), many);
      CHECK.due("the least", x.which(sort, t, 1), least);
    }
  }

  private static void which23() {
    MotesHaveASeat x = hall("mote 0 1 22;open 3;fan 4");
    comes(x, 1, 12, 0, 22);
    comes(x, 1, 5, 12, 33);
    comes(x, 1, 5, 12, 33, 77, 77);
    comes(x, 1, 0, -1, 55);
    comes(x, 1, 0, -1, 99);
    comes(x, 0, 80, 0, 22);
    comes(x, 0, 0, -1, 23);
    CHECK.due("NONE is not refused", x.status(12), 0);
    x.mote(5, 1, 22);
    // The doors bring both down; then the fan takes one of them right.
    comes(x, 1, 2, 12, 33, 32);
    Check.fill(x, 4, 3, 33 + (1L << 32), 32);
    CHECK.due("a long's upper bits count", x.which(4, 1, 0), 0);
    MotesHaveASeat corner = hall("mote 0 1 1");
    Check.fill(corner, 0, 4, 1);
    CHECK.due("told by booleans", corner.which(0, 0, 0), 80);
    MotesHaveASeat none = new MotesHaveASeat();
    none.row(0, 0, 0);
    CHECK.due("of none", none.which(0, 24, 0), 80);
  }

  private static void whichRefusals23() {
    MotesHaveASeat x = hall("mote 0 1 22;mote 0 1 33");
    x.show(1, 0);
    x.row(2, 0, 1);
    for (int t : WRONG_TIMES) {
      CHECK.refused(x, "t ahead of other", BAD, () -> x.which(1, t, 0));
    }
    CHECK.refused(x, "what ahead of nothing", BAD, () -> x.which(0, 0, 2));
    x.row(3, 0, 2);
    CHECK.refused(x, "what -1", BAD, () -> x.which(3, 0, -1));
    CHECK.refused(x, "shelf 8", BAD, () -> x.which(8, 0, 0));
    CHECK.refused(x, "shelf -1", BAD, () -> x.which(-1, 0, 0));
    CHECK.refused(x, "a mote", OTHER, () -> x.which(1, 0, 0));
    CHECK.refused(x, "nothing", NOTHING, () -> x.which(0, 0, 0));
    CHECK.refused(x, "too few", BAD, () -> x.which(2, 0, 0));
  }

  private static void kinds24() {
    MotesHaveASeat x = hall("mote 0 1 0;mote 3 1 22;open 0;fan 2");
    long[][] told = {{}, {33}, {22}, {32}, {22, 33}, {22, 34}, {32, 53}, {32, 42}, {33, 44}, {23},
        {22, 33, 33}, {22, 33, 44}};
    int[] bits = {63, 1, 2 + 4 + 16, 8 + 32, 2 + 4, 16, 8, 32, 1, 0, 2, 4};
    for (int i = 0; i < told.length; i++) {
      Check.fill(x, 0, 2, told[i]);
      CHECK.due("kinds of " + i, x.kinds(0, told[i].length, 1), bits[i]);
    }
    Check.fill(x, 0, 2, 33, 99);
    CHECK.due("the first alone", x.kinds(0, 1, 1), 1);
    MotesHaveASeat still = hall("mote 0 1 0");
    x.row(0, 0, 40);
    still.row(0, 0, 40);
    CHECK.due("still in 0 for 40 steps: all but lead and spark", still.kinds(0, 40, 0), 39);
    still.set(0, 39, 1);
    CHECK.due("but for the last", still.kinds(0, 40, 0), 0);
  }

  private static void kindsRefusals24() {
    MotesHaveASeat x = hall("mote 0 1 22");
    x.show(1, 0);
    x.row(2, 0, 3);
    CHECK.refused(x, "n ahead of other", BAD, () -> x.kinds(1, 41, 0));
    CHECK.refused(x, "n -1", BAD, () -> x.kinds(2, -1, 0));
    CHECK.refused(x, "mote ahead of nothing", BAD, () -> x.kinds(0, 0, 1));
    CHECK.refused(x, "mote -1", BAD, () -> x.kinds(2, 0, -1));
    CHECK.refused(x, "shelf 8", BAD, () -> x.kinds(8, 0, 0));
    CHECK.refused(x, "shelf -1", BAD, () -> x.kinds(-1, 0, 0));
    CHECK.refused(x, "a mote", OTHER, () -> x.kinds(1, 0, 0));
    CHECK.refused(x, "nothing", NOTHING, () -> x.kinds(0, 0, 0));
    CHECK.refused(x, "too few", BAD, () -> x.kinds(2, 4, 0));
  }

  private static void whips26() {
    MotesHaveASeat one = hall("mote 0 5 22");
    CHECK.due("any fan can be undone", one.whips(1, 0), 0);
    CHECK.due("of several the least", one.whips(1, 1), 0);
    one.mote(1, 4, 23);
    CHECK.due("heavy is sure", one.whips(1, 0), 4);
    // By the fan up: 22 is lit, but 23 if door 0 or 1 is turned, 32 if 2 or 3 is.
    MotesHaveASeat x = hall("mote 0 3 22;mote 0 5 23;mote 0 2 32");
    CHECK.due("value", x.whips(1, 0), 2);
    CHECK.due("the fan", x.whips(1, 1), 1);
    CHECK.due("now", x.whips(0, 0), 3);
    x.tell(0, 4);
    CHECK.due("whatever the fan is now", x.whips(1, 1), 1);
    // The fan left keeps 50 in its corner, and lit, unless door 2 is turned: then two others are.
    MotesHaveASeat left = hall("mote 5 1 23;mote 5 2 22;mote 0 3 45;mote 0 4 50");
    CHECK.due("value by the last fan", left.whips(1, 0), 4);
    CHECK.due("the last fan", left.whips(1, 1), 4);
    CHECK.due("its answer", left.answer(1, 4), 0);
    for (int t : WRONG_TIMES) {
      CHECK.refused(x, "t " + t, BAD, () -> x.whips(t, 0));
    }
    CHECK.refused(x, "what 2", BAD, () -> x.whips(0, 2));
    CHECK.refused(x, "what -1", BAD, () -> x.whips(0, -1));
  }

  private static void answer27() {
    MotesHaveASeat x = hall("mote 0 3 22;mote 0 5 23;mote 0 2 32");
    CHECK.due("doors 2 and 3 are least", x.answer(1, 1), 2);
    CHECK.due("all alike", x.answer(0, 1), 0);
    CHECK.due("none turned is least", hall("mote 0 1 22;mote 0 5 23;mote 0 5 32").answer(1, 1), 4);
    CHECK.due("doors 0 and 1 are least", hall("mote 0 5 22;mote 0 1 23;mote 0 5 32").answer(1, 1), 0);
    // Right to 01 by door 3, which is open: turned, it is shut. The walls undo the others.
    CHECK.due("shut door 3", hall("mote 5 5 0;open 3;open 2").answer(1, 0), 3);
    for (int t : WRONG_TIMES) {
      CHECK.refused(x, "t " + t, BAD, () -> x.answer(t, 0));
    }
    CHECK.refused(x, "fan 5", BAD, () -> x.answer(0, 5));
    CHECK.refused(x, "fan -1", BAD, () -> x.answer(0, -1));
  }

  /** From 00 it is lit behind one step, if door 3 is open, but not 0 without 2: 13 of 64. */
  private static void odds28() {
    MotesHaveASeat x = hall("mote 0 9 0");
    CHECK.due("now", x.odds(0, 0), 1000000);
    CHECK.due("mean now", x.odds(0, 1), 9000);
    CHECK.due("behind 1", x.odds(1, 0), 203125);
    CHECK.due("mean behind 1, cut", x.odds(1, 1), 1828);
    x.door(0, true);
    CHECK.due("whatever it is now", x.odds(1, 0), 203125);
    x.mote(0, 9, 55);
    // Half of all does not carry; both are lit, if doors 2 and 3 are open.
    CHECK.due("both", x.odds(1, 0), 62500);
    x.tell(4, 12);
    CHECK.due("all open: both are lit", x.odds(1, 1), 18000);
    // At hours 0 and 2 heavy stays, so that the doors of the second step alone count.
    MotesHaveASeat heavy = hall("mote 1 9 0;beam 4");
    CHECK.due("behind 3", heavy.odds(3, 0), 203125);
    CHECK.due("mean behind 3, cut", heavy.odds(3, 1), 1828);
    // 00, if neither door 3 nor 0 without 2 is open; 11, if both are: 39 and 3 of 64.
    CHECK.due("behind 2", heavy.odds(2, 0), 656250);
    MotesHaveASeat one = hall("mote 0 7 0;chance 12;beam 4");
    CHECK.due("all open", one.odds(3, 0), 1000000);
    CHECK.due("all open, mean", one.odds(3, 1), 7000);
    one.tell(4, 0);
    CHECK.due("all shut", one.odds(3, 0), 0);
    MotesHaveASeat sure = hall("mote 1 9 1;mote 1 9 12;chance 5");
    CHECK.due("sure, whichever way", sure.odds(1, 0), 1000000);
    sure.tell(2, 998);
    sure.put(0, 3);
    sure.put(1, 14);
    CHECK.due("heavy at an even hour", sure.odds(1, 1), 18000);
    CHECK.refused(x, "t 4", BAD, () -> x.odds(4, 0));
    CHECK.refused(x, "t -1", BAD, () -> x.odds(-1, 0));
    CHECK.refused(x, "what 2", BAD, () -> x.odds(0, 2));
    CHECK.refused(x, "what -1", BAD, () -> x.odds(0, -1));
  }

  private static void first29() {
    MotesHaveASeat x = hall("mote 0 2 0;mote 0 5 0;mote 0 5 0");
    CHECK.due("all have the same power", x.first(0), 0);
    CHECK.due("the greatest a", x.first(1), 1);
    MotesHaveASeat y = hall("mote 0 1 0;mote 0 2 0;mote 0 4 0");
    CHECK.due("the greatest power", y.first(0), 2);
    MotesHaveASeat z = hall("mote 0 0 0;mote 0 0 0");
    CHECK.due("no power at all", z.first(0), 0);
    CHECK.due("no a at all", z.first(1), 0);
    MotesHaveASeat none = new MotesHaveASeat();
    CHECK.refused(none, "no motes", STUCK, () -> none.first(0));
    CHECK.refused(none, "no motes", STUCK, () -> none.first(1));
    CHECK.refused(none, "bad ahead of stuck", BAD, () -> none.first(2));
    CHECK.refused(x, "what -1", BAD, () -> x.first(-1));
  }

  private static void beamFor35() {
    CHECK.due("03", hall("mote 0 2 3").beamFor(0), 3);
    CHECK.due("30", hall("mote 0 2 30").beamFor(0), 3);
    CHECK.due("00 by 0 or 6", hall("mote 0 2 0;beam 6").beamFor(0), 0);
    CHECK.due("05 behind 1", hall("mote 0 2 5").beamFor(1), 4);
    CHECK.due("the heavier", hall("mote 0 2 3;mote 0 3 5").beamFor(0), 5);
    CHECK.due("06 of seven", hall("side 7;mote 0 2 6").beamFor(0), 6);
    // By beam 2 a mote comes to 25 with the beam; gold is held in 24, where the beam was.
    CHECK.due("a mote goes whatever the beam", hall("mote 0 2 24;open 3").beamFor(1), 2);
    CHECK.due("gold goes by the beam", hall("mote 2 2 24;open 3").beamFor(1), 0);
    CHECK.due("of none", new MotesHaveASeat().beamFor(24), 0);
    MotesHaveASeat x = hall("mote 0 1 0");
    for (int t : WRONG_TIMES) {
      CHECK.refused(x, "t " + t, BAD, () -> x.beamFor(t));
    }
  }

  private static void warmthFor36() {
    CHECK.due("warm", hall("mote 0 1 22").warmthFor(1), 5);
    CHECK.due("cold does", hall("mote 0 1 23;warm 9").warmthFor(1), 0);
    CHECK.due("none", hall("mote 0 1 20").warmthFor(1), -1);
    CHECK.due("heavy does not mind", hall("mote 1 1 22").warmthFor(1), -1);
    CHECK.due("now", hall("mote 0 1 22").warmthFor(0), 0);
    MotesHaveASeat x = new MotesHaveASeat();
    CHECK.due("of none", x.warmthFor(24), -1);
    CHECK.due("NONE is not refused", x.status(12), 0);
    for (int t : WRONG_TIMES) {
      CHECK.refused(x, "t " + t, BAD, () -> x.warmthFor(t));
    }
  }

  private static void bestCell37() {
    CHECK.due("now", hall("mote 0 1 33;mote 0 9 44").bestCell(0, 0), 0);
    CHECK.due("behind 1", hall("mote 0 1 33").bestCell(0, 1), 1);
    CHECK.due("behind 1 by a door", hall("mote 0 1 33;open 3").bestCell(0, 1), 0);
    CHECK.due("behind 1 by two", hall("mote 0 1 33;open 3;open 0").bestCell(0, 1), 1);
    CHECK.due("it weighs nothing", hall("mote 0 0 33").bestCell(0, 1), 0);
    CHECK.due("lead", hall("mote 3 1 33").bestCell(0, 1), 2);
    CHECK.due("nothing comes to 00", hall("mote 0 1 33;open 3;hour 5").bestCell(0, 1), 10);
    CHECK.due("of seven", hall("side 7;mote 0 1 33;open 1;hour 4;beam 2").bestCell(0, 0), 6);
    // All are blown to the bottom right.
    CHECK.due("behind 24", hall("mote 0 1 33;open 0;open 3").bestCell(0, 24), 0);
    MotesHaveASeat x = hall("mote 0 1 33");
    for (int t : WRONG_TIMES) {
      CHECK.refused(x, "t " + t, BAD, () -> x.bestCell(0, t));
    }
    CHECK.refused(x, "mote 1", BAD, () -> x.bestCell(1, 0));
    CHECK.refused(x, "mote -1", BAD, () -> x.bestCell(-1, 0));
  }

  private static void many38() {
    CHECK.due("behind 1", hall("mote 0 1 22;open 1;fan 4").many(1), 18);
    CHECK.due("now all", hall("mote 0 1 22").many(0), 80);
    CHECK.due("now none", hall("mote 0 1 21").many(0), 0);
    CHECK.due("heavy stays", hall("mote 1 1 23").many(1), 80);
    MotesHaveASeat x = hall("mote 0 1 22");
    for (int t : WRONG_TIMES) {
      CHECK.refused(x, "t " + t, BAD, () -> x.many(t));
    }
  }

  private static void doorFor44() {
    CHECK.due("0 or 1", hall("mote 0 3 22;mote 0 5 23;mote 0 2 32;fan 1").doorFor(1), 0);
    CHECK.due("2 or 3", hall("mote 0 3 22;mote 0 2 23;mote 0 5 32;fan 1").doorFor(1), 2);
    CHECK.due("none", hall("mote 0 9 22;mote 0 2 23;mote 0 5 32;fan 1").doorFor(1), 4);
    CHECK.due("all alike", hall("mote 0 9 22;fan 1").doorFor(0), 0);
    CHECK.due("shut 1", hall("mote 0 9 22;open 1;open 3").doorFor(1), 1);
    MotesHaveASeat x = hall("mote 0 1 22");
    for (int t : WRONG_TIMES) {
      CHECK.refused(x, "t " + t, BAD, () -> x.doorFor(t));
    }
  }

  private static void nothingIsChanged() {
    MotesHaveASeat x = hall("mote 0 1 22;mote 3 3 2;mote 4 2 10;open 0;open 3;fan 1;warm 6;"
        + "mote 2 4 43;mote 5 5 20;mote 1 9 31;mote 0 2 54;mote 3 7 40;mote 4 6 25;mote 2 8 1");
    x.row(0, 0, 40);
    String ahead = Check.seen(x);
    x.setting(24, 0);
    x.which(0, 24, 0);
    x.kinds(0, 40, 1);
    x.whips(24, 0);
    x.answer(24, 2);
    x.odds(3, 0);
    x.first(0);
    x.beamFor(24);
    x.warmthFor(24);
    x.bestCell(1, 24);
    x.many(24);
    x.doorFor(24);
    CHECK.that("nothing is changed", ahead.equals(Check.seen(x)));
  }
}
