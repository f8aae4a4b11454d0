/** Terms: SHELVES and REFUSALS. */
final class ShelfEdges {
  private final Edges e;

  private ShelfEdges(Edges e) {
    this.e = e;
  }

  static void tell(Edges e) {
    ShelfEdges edges = new ShelfEdges(e);
    edges.shelves();
    edges.bits();
    edges.refusals();
    edges.sortsOfRefusals();
  }

  private void shelves() {
    e.edge("SHELVES 0 to 7", "row(0, 0, 1)=1 row(7, 1, 1)=1 holds(0)=0 holds(7)=1 status(11)=2",
        "row(8, 0, 1)=BAD", "row(-1, 0, 1)=BAD", "show(8, NONE)=BAD", "show(-1, NONE)=BAD",
        "row(MAX, 0, 1)=BAD", "row(MIN, 0, 1)=BAD",
        "row(0, 0, 1) row(1, 0, 1) row(2, 0, 1) row(3, 0, 1) row(4, 0, 1) status(11)=5",
        "mote(0, 1, 0) show(0, 0) show(1, 0) show(2, 0) show(3, 0) show(4, 0) show(5, 0)"
            + " show(6, 0) show(7, 0) status(11)=8");
    e.edge("hold NOTHING (at first), a ROW, or a MOTE",
        "holds(0)=NONE holds(3)=NONE holds(7)=NONE status(11)=0", "set(0, 0, 1)=NOTHING",
        "mote(0, 1, 0) show(3, 0) row(3, 2, 1)=1 holds(3)=2 status(11)=1",
        "mote(0, 1, 0) row(3, 2, 1) show(3, 0)=1 holds(3)=10 status(11)=1",
        "row(3, 2, 1) show(3, NONE)=1 holds(3)=NONE status(11)=0");
    e.edge("A ROW has a SORT (0 bytes, 1 shorts, 2 ints, 3 longs, 4 booleans)",
        "row(0, 0, 1)=1 holds(0)=0", "row(0, 4, 1)=1 holds(0)=4", "row(0, 5, 1)=BAD",
        "row(0, -1, 1)=BAD", "row(0, MAX, 1)=BAD", "row(0, MIN, 1)=BAD");
    e.edge("and 0 to 40 elements", "row(0, 0, 0)=1 set(0, 0, 1)=BAD",
        "row(0, 0, 1)=1 set(0, 0, 7)=1 set(0, 1, 1)=BAD",
        "row(0, 3, 40)=1 set(0, 39, 7)=1 element(0, 39)=7 set(0, 40, 1)=BAD", "row(0, 0, 41)=BAD",
        "row(0, 0, -1)=BAD", "row(0, 0, MAX)=BAD", "row(0, 0, MIN)=BAD",
        "row(0, 0, 40) judge(0, 40)=NONE", "row(0, 0, 40) judge(0, 41)=BAD",
        "row(0, 0, 0) judge(0, 0)=NONE");
    String full = "set(0, 0, 1) set(0, 1, 1) row(0, 1, 2)=1 element(0, 0)=0 element(0, 1)=0";
    e.edge("0, or not so, at first", "row(0, 0, 40) element(0, 0)=0 element(0, 39)=0",
        "row(0, 1, 40) element(0, 39)=0", "row(0, 2, 40) element(0, 39)=0",
        "row(0, 3, 40) element(0, 39)=0", "row(0, 4, 40) element(0, 0)=0 element(0, 39)=0",
        "row(0, 4, 2) " + full, "row(0, 3, 2) " + full,
        "row(0, 3, 40) set(0, 39, 5) row(0, 3, 1) row(0, 3, 40) element(0, 39)=0");
  }

  private static String kept(int sort, String... putAndKept) {
    StringBuilder run = new StringBuilder("row(0, " + sort + ", 3)");
    for (int i = 0; i < putAndKept.length; i += 2) {
      run.append(" set(0, 1, ").append(putAndKept[i]).append(")=1 element(0, 1)=")
          .append(putAndKept[i + 1]);
    }
    return run.append(" element(0, 0)=0 element(0, 2)=0").toString();
  }

  private void bits() {
    e.edge("what is put in keeps its lowest bits",
        kept(0, "127", "127", "128", "-128", "255", "-1", "256", "0", "-128", "-128"),
        kept(0, "-129", "127", "-1", "-1"),
        kept(0, "LMAX", "-1", "LMIN", "0", "32768", "0", "33000", "-24"),
        kept(1, "32767", "32767", "32768", "-32768", "65535", "-1", "65536", "0"),
        kept(1, "-32769", "32767", "-1", "-1"),
        kept(1, "LMAX", "-1", "LMIN", "0", "128", "128"),
        kept(2, "MAX", "MAX", "2147483648", "MIN", "4294967295", "-1", "4294967296", "0"),
        kept(2, "-2147483649", "MAX", "LMAX", "-1", "LMIN", "0", "32768", "32768"),
        kept(3, "LMAX", "LMAX", "LMIN", "LMIN", "4294967296", "4294967296", "-1", "-1"));
    e.edge("of booleans: whether it is not 0",
        kept(4, "0", "0", "1", "1", "2", "1", "0", "0", "256", "1", "-1", "1"),
        kept(4, "65536", "1", "4294967296", "1", "LMIN", "1", "LMAX", "1"));
    e.edge("told they are numbers (1, 0)",
        "fill(0, 4, 1, 0, 7) element(0, 0)=1 element(0, 1)=0 element(0, 2)=1",
        "mote(0, 1, 1) fill(0, 4, 9) which(0, 0, 0)=80",
        "mote(0, 1, 0) fill(0, 4, 0) which(0, 0, 0)=80", "fill(0, 4, 9, 0) done(0, 1) status(3)=1");
  }

  private void refusals() {
    e.plain("REFUSALS");
    e.edge("the call answers the number", "side(8)=-2", "mote(0, 1, 0) show(0, 0) set(0, 0, 1)=-3",
        "set(0, 0, 1)=-4", "back()=-5", "feed(32)*250 feed(32)=-6", "hall()=-20");
    String much = "read('side 7;mote 4 5 66;mote 2 3 11;open 1;fan 2;warm 3;beam 4;hour 5')"
        + " tell(4, 6) image() steps(2) seed(99) fill(0, 3, 5, 6) show(1, 0) feeds('fan') ";
    e.edge("nothing changes but how many there were",
        much + "side(6)=BAD row(0, 0, 41)=BAD set(0, 2, 1)=BAD put(2, 0)=BAD tell(2, 1000)=BAD"
            + " door(4, true)=BAD feed(256)=BAD show(0, 2)=BAD steps(25)=BAD hours(61)=BAD",
        much + "set(1, 0, 1)=OTHER copy(0, 1, 0, 0, 1)=OTHER says(0, 0)=OTHER done(1, 0)=OTHER",
        much + "set(2, 0, 1)=NOTHING copy(0, 2, 0, 0, 1)=NOTHING says(2, 0)=NOTHING"
            + " done(2, 0)=NOTHING",
        much + "behind(0, 1, 0)=STUCK done(0, 1)=STUCK hall()=FAULT3 mote(6, 0, 0)=BAD",
        "side(8)=BAD side(8)=BAD status(12)=2 status(13)=0 status(14)=0 status(15)=0 status(16)=0",
        "feed(32)*250 feed(32)=FULL feed(32)=FULL feed(256)=BAD status(12)=1 status(16)=2",
        "back()=STUCK set(0, 0, 0)=NOTHING status(14)=1 status(15)=1 status(12)=0");
    e.edge("the first that fits as each line has them", "mote(0, 1, 0)*10 mote(6, 1, 0)=BAD",
        "feed(32)*250 feed(256)=BAD", "centre(25, 0)=BAD", "first(2)=BAD", "set(0, 0, 1)=NOTHING",
        "set(0, -1, 1)=NOTHING", "mote(0, 1, 0) show(0, 0) set(0, -1, 1)=OTHER",
        "mote(0, 1, 0) show(0, 0) copy(0, 8, 0, 0, 0)=BAD",
        "mote(0, 1, 0) show(0, 0) copy(0, 1, -1, 0, 0)=OTHER", "which(0, 25, 0)=BAD",
        "judge(0, 41)=BAD", "fill(0, 2, 5) judge(0, 2)=BAD", "fill(0, 2, 5) behind(0, 2, 0)=BAD",
        "fill(0, 2, 5) done(0, 2)=BAD", "fill(0, 2, 5) behind(0, 1, 10)=BAD",
        "mote(0, 1, 0) show(0, 0) behind(0, 0, 2)=BAD");
  }

  private void sortsOfRefusals() {
    e.edge("-2 BAD a number that may not be, nothing of that number", "tell(5, 0)=BAD status(12)=1",
        "put(0, 0)=BAD status(12)=1", "moteOf(0, 0)=BAD status(12)=1",
        "holds(8)=NONE status(12)=0");
    e.edge("-3 OTHER: a SHELF that holds another thing than is wanted",
        "mote(0, 1, 0) show(0, 0) set(0, 0, 1)=OTHER status(13)=1",
        "row(0, 0, 1) says(0, 0)=OTHER status(13)=1",
        "mote(0, 1, 0) show(0, 0) judge(0, 0)=OTHER status(13)=1");
    e.edge("-4 NOTHING: a SHELF that holds NOTHING", "set(0, 0, 1)=NOTHING status(14)=1",
        "says(0, 0)=NOTHING status(14)=1",
        "row(0, 0, 1) show(0, NONE) set(0, 0, 1)=NOTHING status(14)=1");
    e.edge("-5 STUCK: it can't be as things stand",
        "back()=STUCK status(15)=1 image() back()=1 status(15)=1",
        "first(0)=STUCK mote(0, 1, 0) first(0)=0",
        "centre(0, 0)=STUCK mote(0, 1, 0) centre(0, 0)=0");
    e.edge("-6 FULL", "mote(0, 1, 0)*10 mote(0, 1, 0)=FULL status(16)=1",
        "feed(32)*250 feed(32)=FULL status(16)=1 wipe()=250 feed(32)=1");
  }
}
