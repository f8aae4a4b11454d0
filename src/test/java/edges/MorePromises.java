/** Promises 30 to 46: more of what comes. */
final class MorePromises {
  private final Edges e;

  private MorePromises(Edges e) {
    this.e = e;
  }

  static void tell(Edges e) {
    MorePromises promises = new MorePromises(e);
    promises.crowd30();
    promises.thick31();
    promises.arrives32();
    promises.lights33();
    promises.meet34();
    promises.beamFor35();
    promises.warmthFor36();
    promises.bestCell37();
    promises.many38();
    promises.runs39();
    promises.together40();
    promises.round41();
    promises.way42();
    promises.walled43();
    promises.doorFor44();
    promises.stirred45();
    promises.ofKind46();
  }

  /** All by which a t of STEPS may not be. */
  private void badTimes(String call) {
    e.refused("BAD", "BAD", "mote(0, 1, 22)", call + "(-1)", call + "(25)", call + "(MIN)",
        call + "(MAX)");
  }

  private void crowd30() {
    e.promise(30, "crowd");
    e.edge("How many MOTES are in a CELL behind t STEPS", "crowd(0, 0)=0 crowd(55, 24)=0",
        "mote(0, 1, 0)*10 crowd(0, 0)=10 crowd(0, 24)=10 crowd(1, 0)=0",
        "mote(0, 1, 20)*2 mote(5, 1, 25) tell(0, 2) crowd(25, 4)=1 crowd(25, 5)=3"
            + " crowd(25, 24)=3 crowd(20, 0)=2",
        "read('" + ComesEdges.LATE_LEAD + "') crowd(10, 23)=0 crowd(10, 24)=1",
        "side(7) mote(0, 1, 66) crowd(66, 0)=1");
    e.refused("BAD", "BAD", "mote(0, 1, 0)", "crowd(-1, 0)", "crowd(6, 0)", "crowd(56, 0)",
        "crowd(60, 0)", "crowd(66, 0)", "crowd(MIN, 0)", "crowd(MAX, 0)", "crowd(0, -1)",
        "crowd(0, 25)", "crowd(0, MIN)", "crowd(0, MAX)");
  }

  private void thick31() {
    e.promise(31, "thick");
    e.edge("The CELL with most MOTES behind t STEPS", "mote(0, 1, 55) thick(0)=55",
        "mote(0, 1, 11) mote(0, 1, 33)*2 thick(0)=33",
        "mote(5, 1, 11)*2 mote(0, 1, 33) mote(0, 1, 34) mote(0, 1, 35) tell(0, 2) thick(0)=11"
            + " thick(2)=35 thick(24)=35",
        "read('" + ComesEdges.LATE_LEAD + "') thick(23)=20 thick(24)=10",
        "side(7) mote(0, 1, 66) thick(0)=66");
    e.edge("of several the first", "mote(0, 1, 33) mote(0, 1, 11) thick(0)=11",
        "mote(0, 1, 11) mote(0, 1, 33) thick(0)=11",
        "mote(0, 1, 33)*2 mote(0, 1, 11)*2 mote(0, 1, 0) thick(0)=11",
        "mote(0, 1, 10) mote(0, 1, 9)=BAD mote(0, 1, 5) thick(0)=5");
    e.edge("of no MOTES 0", "thick(0)=0", "thick(24)=0");
    badTimes("thick");
  }

  private void arrives32() {
    e.promise(32, "arrives");
    e.edge("Behind how many STEPS (0 to 24) a MOTE is first in a CELL",
        "mote(0, 1, 20) tell(0, 2) arrives(0, 20)=0 arrives(0, 21)=1 arrives(0, 25)=5",
        "read('" + ComesEdges.LATE_LEAD + "') arrives(0, 10)=24 arrives(0, 20)=1 arrives(0, 30)=0",
        "mote(0, 1, 0)*9 mote(0, 1, 55) arrives(9, 55)=0");
    e.edge("NONE", "mote(0, 1, 20) arrives(0, 21)=NONE",
        "read('" + ComesEdges.TOO_LATE_LEAD + "') arrives(0, 10)=NONE");
    e.refused("BAD", "BAD", "mote(0, 1, 0) mote(0, 1, 0)", "arrives(-1, 0)", "arrives(2, 0)",
        "arrives(MIN, 0)", "arrives(MAX, 0)", "arrives(0, -1)", "arrives(0, 6)", "arrives(0, 56)",
        "arrives(0, 60)", "arrives(0, MIN)", "arrives(0, MAX)");
    e.edge("(NONE isn't refused.)", "mote(0, 1, 20) arrives(0, 21)=NONE status(12)=0 status(15)=0");
  }

  private void lights33() {
    e.promise(33, "lights");
    e.edge("Behind how many STEPS (0 to 24) a MOTE is first in THE BEAM as it is then",
        "mote(0, 1, 22) lights(0)=0", "mote(0, 1, 20) lights(0)=4", "mote(0, 1, 23) lights(0)=1",
        "read('" + ComesEdges.LATE_LIT + "') lights(0)=24",
        "mote(0, 1, 22)*9 mote(0, 0, 21) lights(9)=5");
    e.edge("NONE", "mote(0, 1, 0) tell(2, 999) lights(0)=NONE",
        "read('" + ComesEdges.TOO_LATE_LIT + "') lights(0)=NONE");
    e.refused("BAD", "BAD", "mote(0, 1, 0) mote(0, 1, 0)", "lights(-1)", "lights(2)", "lights(10)",
        "lights(MIN)", "lights(MAX)");
    e.edge("(NONE isn't refused.)",
        "mote(0, 1, 0) tell(2, 999) lights(0)=NONE status(12)=0 status(15)=0");
  }

  private void meet34() {
    e.promise(34, "meet");
    e.edge("Behind how many STEPS (0 to 24) two MOTES are first in one CELL",
        "mote(0, 1, 20)*2 meet(0, 1)=0 meet(1, 0)=0",
        "mote(0, 1, 20) mote(5, 1, 25) tell(0, 2) meet(0, 1)=5 meet(1, 0)=5",
        "read('" + ComesEdges.LATE_LEAD + ";mote 3 1 10') meet(0, 1)=24",
        "mote(0, 1, 0)*8 mote(0, 1, 20) mote(5, 1, 21) tell(0, 2) meet(8, 9)=1");
    e.edge("NONE", "mote(0, 1, 20) mote(0, 1, 21) meet(0, 1)=NONE",
        "read('" + ComesEdges.TOO_LATE_LEAD + ";mote 3 1 0') meet(0, 1)=NONE");
    e.refused("BAD", "BAD", "mote(0, 1, 0) mote(0, 1, 0)", "meet(-1, 0)", "meet(0, -1)",
        "meet(2, 0)", "meet(0, 2)", "meet(MIN, 0)", "meet(0, MAX)");
    e.edge("also the same", "mote(0, 1, 0) meet(0, 0)=BAD", "mote(0, 1, 0)*10 meet(9, 9)=BAD",
        "mote(0, 1, 0) meet(-1, -1)=BAD", "meet(0, 0)=BAD");
    e.edge("(NONE isn't refused.)",
        "mote(0, 1, 20) mote(0, 1, 21) meet(0, 1)=NONE status(12)=0 status(15)=0");
  }

  private void beamFor35() {
    e.promise(35, "beamFor");
    e.edge("The BEAM (0 to 6) by which, as all else is, VOTES behind t STEPS are most",
        "mote(0, 2, 3) beamFor(0)=3", "mote(0, 2, 5) beamFor(1)=4",
        "side(7) mote(0, 2, 6) beamFor(0)=6 status(6)=0",
        "mote(0, 2, 3) mote(0, 3, 5) beamFor(0)=5", "mote(2, 2, 24) door(3, true) beamFor(1)=0",
        "mote(0, 2, 24) door(3, true) beamFor(1)=2", "mote(1, 2, 4) beamFor(24)=4");
    e.edge("of several the least", "beamFor(0)=0", "beamFor(24)=0",
        "mote(0, 2, 0) tell(3, 6) beamFor(0)=0", "mote(0, 0, 3) beamFor(0)=0",
        "mote(0, 2, 5) mote(0, 2, 3) beamFor(0)=3");
    badTimes("beamFor");
  }

  private void warmthFor36() {
    e.promise(36, "warmthFor");
    e.edge("The least WARMTH (0 to 9) by which, as all else is, it CARRIES behind t STEPS",
        "mote(0, 1, 22) warmthFor(0)=0", "mote(0, 1, 22) warmthFor(1)=5 status(4)=0",
        "mote(0, 1, 23) tell(1, 9) warmthFor(1)=0 status(4)=9", "mote(0, 1, 0) warmthFor(24)=0",
        "mote(0, 1, 50) warmthFor(24)=5");
    e.edge("NONE", "warmthFor(0)=NONE", "warmthFor(24)=NONE", "mote(0, 1, 20) warmthFor(1)=NONE",
        "mote(1, 1, 22) tell(1, 9) warmthFor(1)=NONE");
    badTimes("warmthFor");
    e.edge("(NONE isn't refused.)", "warmthFor(0)=NONE status(12)=0 status(15)=0");
  }

  private void bestCell37() {
    e.promise(37, "bestCell");
    e.edge("The CELL for a MOTE by which VOTES behind t STEPS are most",
        "mote(0, 1, 33) bestCell(0, 1)=1 moteOf(0, 2)=33",
        "mote(0, 1, 33) tell(2, 5) bestCell(0, 0)=5",
        "side(7) mote(0, 1, 0) tell(0, 2) tell(3, 4) bestCell(0, 24)=60",
        "side(7) mote(0, 1, 0) tell(3, 6) bestCell(0, 0)=6",
        "mote(0, 1, 33) tell(0, 2) bestCell(0, 24)=50",
        "mote(0, 9, 1) mote(3, 1, 33) bestCell(1, 1)=2",
        "mote(0, 1, 0) tell(0, 2) tell(2, 5) bestCell(0, 1)=10",
        "mote(4, 1, 0) tell(1, 5) bestCell(0, 4)=55",
        "mote(2, 1, 0) tell(0, 3) tell(2, 7) bestCell(0, 5)=15");
    e.edge("of several the first", "mote(0, 1, 33) bestCell(0, 0)=0",
        "mote(0, 0, 33) bestCell(0, 1)=0", "mote(0, 1, 33) mote(0, 9, 22) bestCell(0, 0)=0",
        "mote(0, 1, 33) door(0, true) door(3, true) bestCell(0, 24)=0",
        "mote(0, 1, 33) door(0, true) door(3, true) tell(3, 1) bestCell(0, 24)=0",
        "mote(0, 1, 33) door(0, true) door(3, true) tell(3, 5) bestCell(0, 24)=0",
        "mote(0, 1, 33) door(0, true) door(1, true) tell(3, 3) bestCell(0, 5)=0");
    e.refused("BAD", "BAD", "mote(0, 1, 0) mote(0, 1, 0)", "bestCell(-1, 0)", "bestCell(2, 0)",
        "bestCell(MIN, 0)", "bestCell(MAX, 0)", "bestCell(0, -1)", "bestCell(0, 25)",
        "bestCell(0, MIN)", "bestCell(0, MAX)");
  }

  private void many38() {
    e.promise(38, "many");
    e.edge("How many SETTINGS make it CARRY behind t STEPS", "many(0)=0 many(24)=0",
        "mote(0, 1, 22) many(0)=80", "mote(0, 1, 21) many(0)=0",
        "mote(0, 1, 22) door(1, true) tell(0, 4) many(1)=18", "mote(1, 1, 23) many(1)=80",
        "mote(0, 0, 22) many(0)=0");
    badTimes("many");
  }

  private void runs39() {
    e.promise(39, "runs");
    e.edge("How many times it CARRIES behind 0, 1 and so on to t STEPS", "runs(24)=0",
        "mote(1, 1, 0) runs(0)=1 runs(5)=1 runs(6)=2 runs(23)=4 runs(24)=5",
        "mote(1, 1, 3) tell(2, 999) runs(0)=1 runs(24)=25", "mote(1, 1, 1) runs(0)=0 runs(1)=1",
        "read('" + ComesEdges.LATE_LIT + "') runs(23)=0 runs(24)=1",
        "mote(1, 1, 0) mote(1, 1, 1) runs(24)=0");
    badTimes("runs");
  }

  private void together40() {
    e.promise(40, "together");
    e.edge("Behind how many of 0 to 24 STEPS two are in THE BEAM both",
        "mote(1, 1, 0) mote(1, 0, 11) together(0, 1)=5 together(1, 0)=5",
        "mote(1, 1, 3) mote(1, 1, 14) tell(2, 999) together(0, 1)=25",
        "mote(1, 1, 0) mote(1, 1, 1) together(0, 1)=0",
        "read('" + ComesEdges.LATE_LIT + ";mote 0 1 52') together(0, 1)=1",
        "read('" + ComesEdges.TOO_LATE_LIT + ";mote 0 1 42') together(0, 1)=0",
        "mote(1, 1, 1) mote(1, 1, 12) together(0, 1)=4");
    e.refused("BAD", "BAD", "mote(0, 1, 0) mote(0, 1, 0)", "together(-1, 0)", "together(0, -1)",
        "together(2, 0)", "together(0, 2)", "together(MIN, 0)", "together(0, MAX)");
    e.edge("also the same", "mote(0, 1, 0) together(0, 0)=BAD",
        "mote(0, 1, 0)*10 together(9, 9)=BAD", "mote(0, 1, 0) together(-1, -1)=BAD",
        "together(0, 0)=BAD");
  }

  /** A spark follows the beam round; it is back in 41 or 30 when the last hour has come. */
  private void round41() {
    e.promise(41, "round");
    e.edge("The least t (1 to 24) behind which all MOTES are in the CELLS in which they are now",
        "round()=1", "mote(0, 1, 22) round()=1", "mote(0, 1, 22)*10 round()=1",
        "read('mote 0 1 52;open 0;warm 5') round()=2",
        "read('mote 4 1 41;open 3;fan 4;hour 977') round()=24",
        "mote(1, 1, 22) door(0, true) round()=1",
        "read('mote 0 1 52;mote 0 1 22;open 0;warm 5') round()=NONE");
    e.edge("NONE", "mote(5, 1, 22) door(0, true) round()=NONE",
        "read('mote 4 1 30;open 3;fan 4;hour 978') where(0, 24)=31 round()=NONE steps(24)"
            + " where(0, 1)=30");
    e.edge("(NONE isn't refused.)",
        "mote(5, 1, 22) door(0, true) round()=NONE status(12)=0 status(15)=0");
  }

  private void way42() {
    e.promise(42, "way");
    e.edge("In how many unlike CELLS a MOTE is behind 0 to 24 STEPS", "mote(0, 1, 22) way(0)=1",
        "mote(0, 1, 20) tell(0, 2) way(0)=6", "read('" + ComesEdges.LATE_LEAD + "') way(0)=3",
        "read('" + ComesEdges.TOO_LATE_LEAD + "') way(0)=2",
        "mote(5, 1, 21) door(3, true) way(0)=5", "side(7) mote(0, 1, 60) tell(0, 2) way(0)=7",
        "side(7) mote(0, 1, 2) tell(0, 3) door(3, true) way(0)=7",
        "side(7) mote(3, 1, 0) tell(0, 2) way(0)=10",
        "side(7) mote(0, 1, 0) tell(0, 3) door(3, true) way(0)=7",
        "mote(0, 1, 0)*9 mote(0, 1, 21) tell(0, 4) way(9)=2");
    e.refused("BAD", "BAD", "mote(0, 1, 0) mote(0, 1, 0)", "way(-1)", "way(2)", "way(10)",
        "way(MIN)", "way(MAX)");
  }

  private void walled43() {
    e.promise(43, "walled");
    e.edge("How many MOTES are in the first or last ROW or COLUMN behind t STEPS",
        "walled(0)=0 walled(24)=0",
        "mote(5, 1, 1) mote(5, 1, 2) mote(5, 1, 3) mote(5, 1, 4) walled(0)=4",
        "mote(5, 1, 51) mote(5, 1, 52) mote(5, 1, 53) mote(5, 1, 54) walled(0)=4",
        "mote(5, 1, 10) mote(5, 1, 20) mote(5, 1, 30) mote(5, 1, 40) walled(0)=4",
        "mote(5, 1, 15) mote(5, 1, 25) mote(5, 1, 35) mote(5, 1, 45) walled(0)=4",
        "mote(5, 1, 0) mote(5, 1, 5) mote(5, 1, 50) mote(5, 1, 55) walled(0)=4",
        "mote(5, 1, 11) mote(5, 1, 14) mote(5, 1, 41) mote(5, 1, 44) walled(0)=0",
        "side(7) mote(5, 1, 52) mote(5, 1, 25) mote(5, 1, 54) mote(5, 1, 55) walled(0)=0"
            + " mote(5, 1, 62) mote(5, 1, 26) walled(0)=2",
        "mote(0, 1, 22)*10 tell(0, 1) walled(1)=0 walled(2)=10 walled(24)=10");
    badTimes("walled");
  }

  private void doorFor44() {
    e.promise(44, "doorFor");
    e.edge("The DOOR by turning which (4: none) VOTES behind t STEPS are most",
        "read('mote 0 9 22;mote 0 2 23;mote 0 5 32;fan 1') doorFor(1)=4 status(2)=0",
        "read('mote 0 9 22;open 1;open 3') doorFor(1)=1 status(2)=10",
        "read('mote 0 3 22;mote 0 2 23;mote 0 5 32;fan 1') doorFor(1)=2",
        "mote(5, 1, 0) doorFor(1)=3");
    e.edge("of several the least", "doorFor(0)=0", "doorFor(24)=0", "mote(0, 9, 22) doorFor(0)=0",
        "read('" + ComesEdges.WHIPS + ";fan 1') doorFor(1)=0", "mote(5, 1, 22) doorFor(1)=2");
    badTimes("doorFor");
  }

  private void stirred45() {
    e.promise(45, "stirred");
    e.edge("MOTES (bits) that are somewhere else behind one STEP", "stirred()=0",
        "mote(0, 1, 22) stirred()=0", "mote(0, 1, 22) tell(0, 1) stirred()=1",
        "mote(0, 1, 22)*10 tell(0, 1) stirred()=1023",
        "mote(0, 1, 2)*9 mote(0, 1, 22) tell(0, 1) stirred()=512",
        "mote(0, 1, 2) tell(0, 1) stirred()=0",
        "read('mote 0 1 22;mote 1 1 22;mote 3 1 52;mote 5 1 33;mote 2 1 22;mote 4 1 33;open 0')"
            + " stirred()=9");
  }

  private void ofKind46() {
    e.promise(46, "ofKind");
    e.edge("How many MOTES are of just a KIND", "ofKind(0)=0 ofKind(5)=0",
        "mote(3, 1, 0) mote(3, 1, 0) mote(4, 1, 0) ofKind(0)=0 ofKind(1)=0 ofKind(2)=0"
            + " ofKind(3)=2 ofKind(4)=1 ofKind(5)=0", "mote(5, 1, 0)*10 ofKind(5)=10",
        "mote(0, 1, 0) mote(1, 1, 0) ofKind(0)=1 ofKind(1)=1");
    e.refused("BAD", "BAD", "mote(0, 1, 0)", "ofKind(-1)", "ofKind(6)", "ofKind(MIN)",
        "ofKind(MAX)");
  }
}
