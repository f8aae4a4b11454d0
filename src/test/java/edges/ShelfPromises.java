/** Promises 1 to 8: a new object, and its shelves. */
final class ShelfPromises {
  private static final String MOTE_IN_0 = "mote(0, 1, 0) show(0, 0)";

  private final Edges e;

  private ShelfPromises(Edges e) {
    this.e = e;
  }

  static void tell(Edges e) {
    ShelfPromises promises = new ShelfPromises(e);
    promises.newObject1();
    promises.row2();
    promises.set3();
    promises.copy4();
    promises.element5();
    promises.holds6();
    promises.show7();
    promises.says8();
  }

  private void newObject1() {
    e.promise(1, "A new object");
    e.edge("SIDE 6", "status(1)=6", "side(7)=6");
    e.edge("no MOTES", "status(0)=0", "mote(0, 1, 0)=0", "moteOf(0, 0)=BAD", "status(8)=0");
    e.edge("all DOORS shut", "status(2)=0", "door(0, true)=0", "door(1, true)=0", "door(2, true)=0",
        "door(3, true)=0");
    e.edge("SHELVES hold NOTHING", "status(11)=0",
        "holds(0)=NONE holds(1)=NONE holds(2)=NONE holds(3)=NONE holds(4)=NONE holds(5)=NONE"
            + " holds(6)=NONE holds(7)=NONE", "says(7, 0)=NOTHING");
    e.edge("THE TAPE is empty", "status(9)=0", "wipe()=0", "feed(32)=1", "hall()=FAULT0");
  }

  private void row2() {
    e.promise(2, "row");
    e.edge("SHELF s holds a new ROW: 1", "row(0, 0, 0)=1 holds(0)=0 status(11)=1",
        "row(7, 4, 40)=1 holds(7)=4 set(7, 39, 1)=1",
        "fill(3, 2, 5, 6) row(3, 2, 2)=1 element(3, 0)=0 element(3, 1)=0",
        "fill(3, 2, 5, 6) row(3, 2, 1)=1 element(3, 1)=0 set(3, 1, 1)=BAD",
        "fill(3, 0, 5) row(3, 1, 2)=1 holds(3)=1 set(3, 1, 300)=1 element(3, 1)=300",
        MOTE_IN_0 + " row(0, 3, 1)=1 holds(0)=3 element(0, 0)=0 status(11)=1");
    e.refused("BAD", "BAD", "fill(0, 3, 5, 6)", "row(-1, 0, 0)", "row(8, 0, 0)", "row(MIN, 0, 0)",
        "row(MAX, 0, 0)", "row(0, -1, 0)", "row(0, 5, 0)", "row(0, MIN, 0)", "row(0, MAX, 0)",
        "row(0, 0, -1)", "row(0, 0, 41)", "row(0, 0, MIN)", "row(0, 0, MAX)");
  }

  private void set3() {
    e.promise(3, "set");
    e.edge("Element i of the ROW in SHELF s becomes v: 1",
        "row(0, 3, 3) set(0, 0, 7)=1 set(0, 2, 9)=1 element(0, 0)=7 element(0, 1)=0"
            + " element(0, 2)=9", "fill(0, 3, 5) set(0, 0, 6)=1 element(0, 0)=6",
        "row(7, 3, 40) set(7, 39, 8)=1 element(7, 39)=8",
        "row(0, 3, 1) row(1, 3, 1) set(1, 0, 4) element(0, 0)=0 element(1, 0)=4");
    e.refused("BAD SHELF", "BAD", "row(0, 0, 3) row(7, 0, 3)", "set(-1, 0, 1)", "set(8, 0, 1)",
        "set(MIN, 0, 1)", "set(MAX, 0, 1)");
    e.refused("OTHER", "OTHER", MOTE_IN_0, "set(0, 0, 1)", "set(0, -1, 1)", "set(0, 40, 1)");
    e.refused("NOTHING", "NOTHING", "row(1, 0, 1)", "set(0, 0, 1)", "set(0, -1, 1)",
        "set(7, 40, 1)");
    e.edge("BAD i", "row(0, 3, 3) set(0, 3, 1)=BAD", "row(0, 3, 3) set(0, -1, 1)=BAD",
        "row(0, 3, 0) set(0, 0, 1)=BAD", "row(0, 3, 40) set(0, 40, 1)=BAD",
        "row(0, 3, 3) set(0, 39, 1)=BAD", "row(0, 3, 3) set(0, MAX, 1)=BAD",
        "row(0, 3, 3) set(0, MIN, 1)=BAD");
  }

  private void copy4() {
    e.promise(4, "copy");
    String rows = "fill(0, 2, 1, 2, 3, 4, 5) fill(1, 2, 7, 8, 9) ";
    e.edge("n elements of the ROW in SHELF p from place i on come to places j on of that in q",
        rows + "copy(0, 1, 2, 1, 2)=2 element(1, 0)=7 element(1, 1)=3 element(1, 2)=4"
            + " element(0, 2)=3", rows + "copy(0, 1, 0, 0, 3)=3 element(1, 0)=1 element(1, 2)=3",
        rows + "copy(1, 0, 0, 2, 3)=3 element(0, 1)=2 element(0, 2)=7 element(0, 4)=9",
        rows + "copy(0, 1, 4, 2, 1)=1 element(1, 1)=8 element(1, 2)=5",
        "row(0, 3, 40) set(0, 39, 6) set(0, 0, 5) row(7, 3, 40) copy(0, 7, 0, 0, 40)=40"
            + " element(7, 39)=6 element(7, 0)=5",
        "fill(0, 4, 1, 0, 1) row(1, 4, 3) copy(0, 1, 0, 0, 3)=3 element(1, 0)=1 element(1, 1)=0",
        rows + "copy(1, 1, 0, 0, 3)=3 element(1, 0)=7 element(1, 2)=9");
    e.edge("as they were",
        rows + "copy(0, 0, 0, 1, 4)=4 element(0, 0)=1 element(0, 1)=1 element(0, 2)=2"
            + " element(0, 4)=4",
        rows + "copy(0, 0, 1, 0, 4)=4 element(0, 0)=2 element(0, 1)=3 element(0, 3)=5"
            + " element(0, 4)=5");
    e.edge("n", rows + "copy(0, 1, 0, 0, 0)=0 element(1, 0)=7",
        rows + "copy(0, 1, 5, 3, 0)=0 element(1, 2)=9", "row(0, 0, 0) copy(0, 0, 0, 0, 0)=0",
        rows + "copy(0, 1, 0, 0, 1)=1");
    e.refused("BAD SHELVES", "BAD", rows + MOTE_IN_0.replace("show(0, 0)", "show(2, 0)"),
        "copy(-1, 1, 0, 0, 1)", "copy(8, 1, 0, 0, 1)", "copy(0, -1, 0, 0, 1)",
        "copy(0, 8, 0, 0, 1)", "copy(2, 8, 0, 0, 1)", "copy(-1, 2, 0, 0, 1)", "copy(3, 8, 0, 0, 1)",
        "copy(MIN, MAX, 0, 0, 1)");
    e.refused("OTHER", "OTHER", rows + "mote(0, 1, 0) show(2, 0)", "copy(2, 0, 0, 0, 1)",
        "copy(0, 2, 0, 0, 1)", "copy(2, 2, 0, 0, 1)", "copy(2, 3, 0, 0, 1)", "copy(3, 2, 0, 0, 1)",
        "copy(2, 0, -1, 0, 1)", "copy(0, 2, 0, 0, 0)");
    e.edge("also ROWS of two SORTS, if both hold something",
        "row(0, 0, 3) row(1, 1, 3) copy(0, 1, 0, 0, 1)=OTHER",
        "row(0, 3, 3) row(1, 2, 3) copy(0, 1, 0, 0, 1)=OTHER",
        "row(0, 4, 3) row(1, 0, 3) copy(0, 1, 0, 0, 1)=OTHER",
        "row(0, 0, 0) row(1, 1, 0) copy(0, 1, 0, 0, 0)=OTHER",
        "row(0, 0, 3) row(1, 1, 3) copy(0, 1, -1, 0, 1)=OTHER",
        "row(0, 0, 3) copy(0, 1, 0, 0, 1)=NOTHING", "row(1, 3, 3) copy(0, 1, 0, 0, 1)=NOTHING");
    e.refused("NOTHING", "NOTHING", rows, "copy(0, 2, 0, 0, 1)", "copy(2, 0, 0, 0, 1)",
        "copy(2, 3, 0, 0, 1)", "copy(2, 2, 0, 0, 0)", "copy(0, 2, -1, -1, -1)",
        "copy(2, 0, 0, 99, 1)");
    e.refused("BAD the others", "BAD", rows, "copy(0, 1, -1, 0, 1)", "copy(0, 1, 0, -1, 1)",
        "copy(0, 1, 0, 0, -1)", "copy(0, 1, 0, 0, 4)", "copy(1, 0, 0, 0, 4)", "copy(0, 1, 3, 0, 3)",
        "copy(0, 1, 0, 1, 3)", "copy(0, 1, 5, 0, 1)", "copy(0, 1, 0, 3, 1)", "copy(0, 1, 6, 0, 0)",
        "copy(0, 1, 0, 4, 0)", "copy(0, 1, MAX, 0, 1)", "copy(0, 1, 0, MAX, 1)",
        "copy(0, 1, 1, 0, MAX)", "copy(0, 1, 0, 1, MAX)", "copy(0, 1, MAX, MAX, MAX)",
        "copy(0, 1, MIN, MIN, MIN)", "copy(0, 1, 2, 2, MIN)", "copy(0, 0, 1, 0, 5)",
        "copy(0, 0, 0, 1, 5)");
  }

  private void element5() {
    e.promise(5, "element");
    e.edge("Element i of the ROW",
        "fill(0, 3, 7, LMIN, 9) element(0, 0)=7 element(0, 1)=LMIN element(0, 2)=9",
        "row(7, 3, 40) set(7, 39, LMAX) element(7, 39)=LMAX");
    e.edge("0: none",
        "fill(0, 3, 7, 8) element(0, 2)=0 element(0, -1)=0 element(0, 40)=0 element(0, MAX)=0"
            + " element(0, MIN)=0", "row(0, 3, 40) set(0, 39, 5) element(0, 40)=0",
        "fill(0, 3, 7, 8) row(0, 3, 1) element(0, 1)=0");
    e.edge("no ROW", "element(0, 0)=0",
        "element(-1, 0)=0 element(8, 0)=0 element(MAX, 0)=0 element(MIN, 0)=0",
        "mote(0, 5, 11) show(0, 0) element(0, 0)=0", "fill(0, 3, 7) show(0, NONE) element(0, 0)=0",
        "fill(0, 3, 7) mote(0, 5, 11) show(0, 0) element(0, 0)=0");
    e.edge("nothing is refused",
        "element(0, 0)=0 element(8, 0)=0 element(-1, -1)=0 status(12)=0 status(13)=0 status(14)=0",
        MOTE_IN_0 + " element(0, 0)=0 status(12)=0 status(13)=0 status(14)=0",
        "row(0, 0, 1) element(0, 1)=0 element(0, -1)=0 status(12)=0");
  }

  private void holds6() {
    e.promise(6, "holds");
    e.plain("What SHELF s holds");
    e.edge("NONE NOTHING", "holds(0)=NONE status(14)=0",
        "row(3, 0, 1) show(3, NONE) holds(3)=NONE");
    e.edge("no SHELF", "holds(-1)=NONE status(12)=0", "holds(8)=NONE status(12)=0",
        "holds(MAX)=NONE status(12)=0", "holds(MIN)=NONE status(12)=0");
    e.edge("0 to 4 a ROW by its SORT", "row(0, 0, 0) holds(0)=0", "row(1, 1, 0) holds(1)=1",
        "row(2, 2, 0) holds(2)=2", "row(3, 3, 0) holds(3)=3", "row(7, 4, 40) holds(7)=4");
    e.edge("10 and the number of a MOTE", "mote(3, 1, 0) show(0, 0) holds(0)=10",
        "mote(0, 1, 0)*10 show(7, 9) holds(7)=19");
  }

  private void show7() {
    e.promise(7, "show");
    e.edge("SHELF s holds a MOTE",
        "mote(0, 1, 0)*10 show(0, 0)=1 show(7, 9)=1 holds(0)=10 holds(7)=19 status(11)=2",
        "mote(0, 1, 0) show(0, 0)=1 show(1, 0)=1 holds(0)=10 holds(1)=10",
        "mote(0, 1, 0) row(0, 0, 5) show(0, 0)=1 holds(0)=10");
    e.edge("or NOTHING (mote NONE): 1", "show(0, NONE)=1 holds(0)=NONE",
        MOTE_IN_0 + " show(0, NONE)=1 holds(0)=NONE",
        "row(0, 0, 5) show(0, NONE)=1 holds(0)=NONE status(11)=0", "show(7, NONE)=1");
    e.refused("BAD", "BAD", "mote(0, 1, 0)*2 show(0, 1) row(1, 0, 1)", "show(-1, 0)", "show(8, 0)",
        "show(MIN, 0)", "show(MAX, 0)", "show(0, 2)", "show(1, -2)", "show(1, 10)", "show(0, MIN)",
        "show(0, MAX)", "show(8, NONE)", "show(-1, NONE)");
  }

  /** At hour 1 by the upper door; LEAD goes on down, SPARK right. */
  private void says8() {
    e.promise(8, "says");
    e.plain("What the MOTE in SHELF s, taken for one of a KIND, says");
    String all = "read('mote 0 9 20;mote 1 8 20;mote 2 7 20;mote 3 6 20;mote 4 5 20;mote 5 4 20')"
        + " door(0, true) tell(2, 1)"
        + " show(0, 0) show(1, 1) show(2, 2) show(3, 3) show(4, 4) show(5, 5) ";
    e.edge("MOTE its a",
        all + "says(0, 0)=9 says(1, 0)=8 says(2, 0)=7 says(3, 0)=6 says(4, 0)=5 says(5, 0)=4",
        "mote(0, 0, 0) show(7, 0) says(7, 0)=0");
    e.edge("HEAVY, LEAD, GOLD, SPARK, LAZY the CELL behind one STEP",
        all + "says(1, 1)=30 says(3, 3)=40 says(2, 2)=30 says(4, 4)=31 says(5, 5)=30",
        "read('mote 1 1 52;mote 5 1 52;mote 2 1 52;open 0;hour 1') show(0, 0) show(1, 1)"
            + " show(2, 2) says(0, 1)=52 says(1, 5)=52 says(2, 2)=52 status(5)=1");
    e.edge("by its own KIND", all + "says(3, 1)=40 says(4, 2)=31");
    e.refused("BAD SHELF, KIND", "BAD", "mote(2, 1, 0) show(0, 0) row(1, 0, 1)", "says(-1, 0)",
        "says(8, 0)", "says(MIN, 0)", "says(MAX, 0)", "says(0, -1)", "says(0, 6)", "says(0, MIN)",
        "says(0, MAX)", "says(1, 6)", "says(2, -1)");
    e.refused("OTHER", "OTHER", "row(0, 0, 1) row(7, 4, 0)", "says(0, 0)", "says(0, 5)",
        "says(7, 0)");
    e.edge("also if it is of no such KIND nor of one under it",
        all + "says(0, 1)=OTHER says(0, 2)=OTHER says(0, 3)=OTHER says(0, 4)=OTHER"
            + " says(0, 5)=OTHER",
        all + "says(1, 2)=OTHER says(1, 3)=OTHER says(1, 4)=OTHER says(1, 5)=OTHER",
        all + "says(2, 1)=OTHER says(2, 3)=OTHER says(2, 4)=OTHER says(2, 5)=OTHER",
        all + "says(3, 2)=OTHER says(3, 4)=OTHER says(3, 5)=OTHER",
        all + "says(4, 1)=OTHER says(4, 3)=OTHER says(4, 5)=OTHER",
        all + "says(5, 1)=OTHER says(5, 2)=OTHER says(5, 3)=OTHER says(5, 4)=OTHER");
    e.refused("NOTHING", "NOTHING", "mote(2, 1, 0) show(1, 0) show(1, NONE)", "says(0, 0)",
        "says(1, 2)", "says(7, 5)");
  }
}
