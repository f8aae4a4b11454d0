/** Promises 9 to 16: the hall is set, by calls and by the tape. */
public final class MotesHallTest {
  private static final int BAD = -2;
  private static final int FULL = -6;
  private static final Check CHECK = new Check();

  public static void main(String[] args) {
    side9();
    mote10();
    put11();
    door12();
    tell13();
    feed14();
    wipe15();
    hallAnswers16();
    hallComes16();
    hallOrNothing16();
    hallRoom16();
    CHECK.end();
  }

  private static void side9() {
    MotesHaveASeat x = new MotesHaveASeat();
    CHECK.due("side as it is", x.side(6), 6);
    CHECK.refused(x, "side(5)", BAD, () -> x.side(5));
    CHECK.refused(x, "side(3)", BAD, () -> x.side(3));
    CHECK.refused(x, "side(8)", BAD, () -> x.side(8));
    CHECK.refused(x, "side(MIN)", BAD, () -> x.side(Integer.MIN_VALUE));
    CHECK.due("side more", x.side(7), 6);
    CHECK.due("status", x.status(1), 7);
    CHECK.refused(x, "less than it is", BAD, () -> x.side(6));
    CHECK.due("side again", x.side(7), 7);
    CHECK.due("a cell of the greater hall", x.mote(0, 0, 66), 0);
  }

  private static void mote10() {
    MotesHaveASeat x = new MotesHaveASeat();
    int[][] bad = {{-1, 0, 0}, {6, 0, 0}, {0, -1, 0}, {0, 10, 0}, {0, 0, -1}, {0, 0, 6},
        {0, 0, 9}, {0, 0, 56}, {0, 0, 60}, {0, 0, 100}, {0, 0, Integer.MAX_VALUE},
        {0, 0, Integer.MIN_VALUE}, {Integer.MAX_VALUE, 0, 0}, {0, Integer.MIN_VALUE, 0}};
    for (int[] b : bad) {
      CHECK.refused(x, "mote of what may not be", BAD, () -> x.mote(b[0], b[1], b[2]));
    }
    for (int m = 0; m < 10; m++) {
      CHECK.due("mote", x.mote(m % 6, m, 11 * (m % 6)), m);
    }
    for (int m = 0; m < 10; m++) {
      CHECK.due("kind", x.moteOf(m, 0), m % 6);
      CHECK.due("a", x.moteOf(m, 1), m);
      CHECK.due("cell", x.moteOf(m, 2), 11 * (m % 6));
    }
    CHECK.due("motes", x.status(0), 10);
    CHECK.due("all a", x.status(8), 45);
    CHECK.refused(x, "one too many", FULL, () -> x.mote(0, 0, 0));
    CHECK.refused(x, "bad ahead of full", BAD, () -> x.mote(6, 0, 0));
  }

  private static void put11() {
    MotesHaveASeat x = new MotesHaveASeat();
    CHECK.refused(x, "no mote", BAD, () -> x.put(0, 0));
    x.mote(0, 0, 12);
    x.mote(1, 0, 34);
    CHECK.due("put", x.put(0, 55), 12);
    CHECK.due("put again", x.put(0, 0), 55);
    CHECK.due("the other one", x.moteOf(1, 2), 34);
    CHECK.refused(x, "put(2)", BAD, () -> x.put(2, 0));
    CHECK.refused(x, "put(-1)", BAD, () -> x.put(-1, 0));
    CHECK.refused(x, "cell 6", BAD, () -> x.put(0, 6));
    CHECK.refused(x, "cell 60", BAD, () -> x.put(0, 60));
    CHECK.refused(x, "cell -1", BAD, () -> x.put(0, -1));
  }

  private static void door12() {
    MotesHaveASeat x = new MotesHaveASeat();
    for (int d = 0; d < 4; d++) {
      CHECK.due("shut at first", x.door(d, true), 0);
      CHECK.due("doors", x.status(2), (2 << d) - 1);
      CHECK.due("open", x.door(d, true), 1);
    }
    CHECK.due("shut one", x.door(1, false), 1);
    CHECK.due("doors then", x.status(2), 13);
    CHECK.due("it was shut", x.door(1, false), 0);
    CHECK.refused(x, "door(4)", BAD, () -> x.door(4, true));
    CHECK.refused(x, "door(-1)", BAD, () -> x.door(-1, false));
    CHECK.refused(x, "door(32)", BAD, () -> x.door(32, true));
  }

  private static void tell13() {
    MotesHaveASeat x = new MotesHaveASeat();
    int[] first = {0, 0, 0, 0, 3};
    int[] most = {4, 9, 999, 6, 12};
    for (int w = 0; w < 5; w++) {
      int what = w;
      CHECK.due("tell most", x.tell(what, most[what]), first[what]);
      CHECK.due("status", x.status(3 + what), most[what]);
      CHECK.refused(x, "more than most", BAD, () -> x.tell(what, most[what] + 1));
      CHECK.refused(x, "less than 0", BAD, () -> x.tell(what, -1));
      CHECK.refused(x, "MIN", BAD, () -> x.tell(what, Integer.MIN_VALUE));
      CHECK.due("tell 1", x.tell(what, 1), most[what]);
      CHECK.due("tell 0", x.tell(what, 0), 1);
    }
    CHECK.refused(x, "tell(5, 0)", BAD, () -> x.tell(5, 0));
    CHECK.refused(x, "tell(-1, 0)", BAD, () -> x.tell(-1, 0));
    CHECK.refused(x, "tell(-1, -1)", BAD, () -> x.tell(-1, -1));
  }

  private static void feed14() {
    MotesHaveASeat x = new MotesHaveASeat();
    for (int i = 1; i <= 250; i++) {
      CHECK.due("feed", x.feed(i % 2 == 0 ? 255 : 0), i);
    }
    CHECK.due("size", x.status(9), 250);
    CHECK.refused(x, "feed(256)", BAD, () -> x.feed(256));
    CHECK.refused(x, "feed(-1)", BAD, () -> x.feed(-1));
    CHECK.refused(x, "feed more", FULL, () -> x.feed(32));
    CHECK.due("size then", x.status(9), 250);
  }

  private static void wipe15() {
    MotesHaveASeat x = new MotesHaveASeat();
    CHECK.due("wipe nothing", x.wipe(), 0);
    x.feed('x');
    x.feed(';');
    CHECK.due("wipe", x.wipe(), 2);
    CHECK.due("size", x.status(9), 0);
    CHECK.due("what was fed is gone", Check.read(x, "fan 1"), 1);
    x.feed(' ');
    for (char c : "fan 123;;".toCharArray()) {
      x.feed(c);
    }
    x.wipe();
    CHECK.due("all of it", Check.read(x, "fan 2"), 1);
    CHECK.due("the fan", x.status(3), 2);
  }

  /** On a new object: how many statements, or the fault with a minus. */
  private static void answers(String text, int want) {
    MotesHaveASeat x = new MotesHaveASeat();
    for (int i = 0; i < text.length(); i++) {
      x.feed(text.charAt(i));
    }
    if (want > 0) {
      CHECK.due("\"" + text + "\"", x.hall(), want);
      CHECK.due("nothing was refused", x.status(12), 0);
    } else {
      CHECK.refusedAs(x, "\"" + text + "\"", -20 + want, BAD, x::hall);
    }
    CHECK.due("the tape is empty behind \"" + text + "\"", x.status(9), 0);
  }

  private static void hallAnswers16() {
    Object[][] all = {
        {"", 0}, {" ", -1}, {"   ", -3}, {";", 0}, {" ;", -1}, {"1", 0}, {"fan", -3}, {"fan ", -4},
        {"fan 1", 1}, {"fan1", 1}, {"  fan  1  ", 1}, {"fan 1;", -6}, {"fan 1; ", -7},
        {"fan 1;;", -6}, {"fan 1;warm 2", 2}, {"fan 1 ; warm 2", 2}, {"fan1;warm2", 2},
        {"fan 1 2", -6}, {"fan 1 fan 2", -6}, {"fan 1fan 2", -5}, {"fan ;", -4}, {"fan fan", -4},
        {"fan 001", 1}, {"fan 0001", -4}, {"fan 0000000000000000000000000000", -4},
        {"fan 99999999999", -4}, {"fan -1", -4}, {"fan A", -4}, {"fan 1A", -5}, {"Fan 1", 0},
        {"fans 1", 0}, {"fa 1", 0}, {"fanwarm 1", 0}, {"fanz 1", 0}, {"fana 1", 0}, {"fan{1", -3}, {"fan`1", -3}, {"fan/1", -3},
        {"fan:1", -3}, {"xan 1", 0}, {"fax 1", 0}, {"fan 1z", -5}, {"fan 1 a", -6}, {"fan\t1", -3}, {"fan 1\n", -5},
        {"\u00ff", 0}, {"fan 1;\u0000", -6}, {"fan 4", 1}, {"fan 5", -4}, {"fan 1;x", -6},
        {"side 6", 1}, {"side 7", 1}, {"side 8", -5}, {"side 5", -5}, {"side 3", -5},
        {"side 7;side 7", 2}, {"side 7;side 6", -12}, {"side 007", 1},
        {"mote 0 0 0", 1}, {"mote 5 9 55", 1}, {"mote 6 0 0", -5}, {"mote 0 10 0", -7},
        {"mote 0 0 56", -9}, {"mote 0 0 60", -9}, {"mote 0 0 999", -9}, {"mote 0 0 6", -9},
        {"mote 000 009 055", 1}, {"mote 0 0", -8}, {"mote 0 0 ", -9}, {"mote", -4},
        {"mote 0 0;", -8}, {"mote 0 0 0 0", -11}, {"mote 0 0 66", -9},
        {"mote 0 0 66;side 7", -9}, {"side 7;mote 0 0 66", 2}, {"side 7;mote 0 0 67", -16},
        {"open 0;open 3", 2}, {"open 4", -5}, {"shut 3", 1}, {"shut 4", -5}, {"warm 9", 1},
        {"warm 10", -5}, {"beam 6", 1}, {"beam 7", -5}, {"hour 999", 1}, {"hour 1000", -5},
        {"hour 0999", -5}, {"chance 12", 1}, {"chance 13", -7}, {"chance 0", 1},
        {"fan 1;warm 10;x", -11}, {"fan 1;warm;x", -10}};
    for (Object[] a : all) {
      answers((String) a[0], (Integer) a[1]);
    }
    StringBuilder longest = new StringBuilder("fan0");
    while (longest.length() < 249) {
      longest.append(";fan1");
    }
    answers(longest.toString(), 50);
    answers(longest.append(' ').toString(), 50);
    answers(longest.substring(0, 249) + ";", -250);
    answers(" " + longest.substring(0, 249), 50);
  }

  private static void hallComes16() {
    MotesHaveASeat x = new MotesHaveASeat();
    x.door(2, true);
    x.mote(0, 1, 0);
    CHECK.due("hall", Check.read(x, "mote 4 7 35;open 0;open 1;shut 1;shut 2;fan 3;warm 8;"
        + "beam 5;hour 321;chance 11;side 7;mote 1 2 66;fan 2"), 13);
    int[] status = {3, 7, 1, 2, 8, 321, 5, 11, 10, 0, 1, 0};
    for (int what = 0; what < status.length; what++) {
      CHECK.due("status(" + what + ")", x.status(what), status[what]);
    }
    CHECK.due("kind", x.moteOf(1, 0), 4);
    CHECK.due("a", x.moteOf(1, 1), 7);
    CHECK.due("cell", x.moteOf(1, 2), 35);
    CHECK.due("the last one's cell", x.moteOf(2, 2), 66);
  }

  private static void hallOrNothing16() {
    MotesHaveASeat x = new MotesHaveASeat();
    x.mote(0, 1, 0);
    String text = "side 7;mote 1 1 66;open 0;fan 2;warm 3;beam 4;hour 5;chance 6;fan";
    for (int i = 0; i < text.length(); i++) {
      x.feed(text.charAt(i));
    }
    CHECK.refusedAs(x, "nothing of it comes", -20 - text.length(), BAD, x::hall);
    CHECK.due("the tape is empty", x.status(9), 0);
    CHECK.due("an empty one is refused again", x.hall(), -20);
  }

  private static void hallRoom16() {
    MotesHaveASeat x = new MotesHaveASeat();
    for (int m = 0; m < 8; m++) {
      x.mote(0, 0, 0);
    }
    String three = "mote 0 0 0;mote 0 0 0;mote 0 0 0";
    CHECK.due("no room for the third: its word", Check.read(x, three), -20 - 22);
    CHECK.due("none of the three", x.status(0), 8);
    CHECK.due("two have room", Check.read(x, "mote 0 0 0;mote 0 0 0"), 2);
    CHECK.due("a word for which there is no room", Check.read(x, " mote"), -21);
    CHECK.due("its word, ahead of its numbers", Check.read(x, "fan 1;mote 9 9 9"), -26);
    CHECK.due("the fan is as it was", x.status(3), 0);
  }
}
