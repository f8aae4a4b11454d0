/** Terms: A STEP. */
final class StepEdges {
  private final Edges e;

  private StepEdges(Edges e) {
    this.e = e;
  }

  static void tell(Edges e) {
    StepEdges edges = new StepEdges(e);
    edges.pushes();
    edges.motesAndHeavy();
    edges.goldAndSpark();
    edges.hoursAndVotes();
  }

  /** The hall by a text, and where its first mote is behind 1, 2 and so on STEPS. */
  private static String goes(String hall, int... cells) {
    StringBuilder run = new StringBuilder("read('").append(hall).append("')");
    for (int t = 1; t <= cells.length; t++) {
      run.append(" where(0, ").append(t).append(")=").append(cells[t - 1]);
    }
    return run.toString();
  }

  private void pushes() {
    e.plain("==== 2. A STEP PUSHES");
    e.edge("each open DOOR pushes away from itself (0 down, 1 left, 2 up, 3 right)",
        goes("mote 0 1 22;open 0", 32, 42), goes("mote 0 1 22;open 1", 21, 20),
        goes("mote 0 1 22;open 2", 12, 2), goes("mote 0 1 22;open 3", 23, 24));
    e.edge("in order 0 to 3", goes("mote 0 1 52;open 0;open 2", 42, 42),
        goes("mote 0 1 2;open 0;open 2", 2), goes("mote 0 1 20;open 1;open 3", 21, 21),
        goes("mote 0 1 25;open 1;open 3", 25),
        goes("mote 0 1 50;open 0;open 1;open 2;open 3", 41, 41));
    e.edge("then the FAN: 1 up, 2 right, 3 down, 4 left", goes("mote 0 1 22;fan 1", 12),
        goes("mote 0 1 22;fan 2", 23), goes("mote 0 1 22;fan 3", 32), goes("mote 0 1 22;fan 4", 21),
        goes("mote 0 1 52;open 0;fan 1", 42), goes("mote 0 1 20;open 1;fan 2", 21),
        goes("mote 0 1 2;open 2;fan 3", 12), goes("mote 0 1 25;open 3;fan 4", 24),
        goes("mote 0 1 22;fan 0", 22));
    e.edge("A push moves a CELL that way, if it is one of the hall; else nothing",
        goes("mote 0 1 42;open 0", 52, 52), goes("mote 0 1 21;open 1", 20, 20),
        goes("mote 0 1 12;open 2", 2, 2), goes("mote 0 1 24;open 3", 25, 25),
        goes("mote 0 1 42;fan 3", 52, 52), goes("mote 0 1 21;fan 4", 20, 20),
        goes("mote 0 1 12;fan 1", 2, 2), goes("mote 0 1 24;fan 2", 25, 25),
        goes("mote 0 1 0;open 1;open 2", 0), goes("mote 0 1 55;open 0;open 3", 55),
        goes("mote 0 1 10;open 1", 10), goes("mote 0 1 45;open 3", 45),
        goes("side 7;mote 0 1 52;open 0", 62, 62), goes("side 7;mote 0 1 25;open 3", 26, 26),
        goes("side 7;mote 0 1 52;fan 3", 62, 62), goes("side 7;mote 0 1 25;fan 2", 26, 26),
        "mote(0, 1, 52) mote(0, 1, 25) door(0, true) door(3, true) side(7) where(0, 1)=63"
            + " where(1, 1)=36");
    e.edge("THE BEAM at an HOUR: all CELLS whose COLUMN is HOUR and BEAM and their ROW together"
            + " modulo SIDE",
        "lit(0, 0)=1 lit(1, 0)=0 lit(5, 0)=0 lit(10, 0)=0 lit(11, 0)=1 lit(55, 0)=1",
        "lit(5, 5)=1 lit(0, 6)=1 lit(5, 6)=0 lit(0, 5)=0", "lit(50, 1)=1 lit(55, 1)=0 lit(45, 1)=1",
        "lit(3, 999)=1 lit(2, 999)=0 lit(52, 999)=1",
        "tell(3, 6) lit(0, 0)=1 lit(52, 999)=1 lit(5, 0)=0", "tell(3, 5) lit(5, 0)=1 lit(10, 0)=1",
        "side(7) lit(6, 6)=1 lit(0, 7)=1 lit(0, 6)=0 lit(66, 0)=1 lit(60, 1)=1",
        "side(7) tell(3, 6) lit(6, 0)=1 lit(0, 0)=0 lit(63, 999)=1 lit(0, 1)=1");
    e.edge("At a STEP each goes by itself",
        "read('mote 0 1 22;mote 0 1 21;fan 2') where(0, 1)=23 where(1, 1)=22",
        "read('mote 0 1 25;mote 0 1 24;fan 2') where(0, 1)=25 where(1, 1)=25 crowd(25, 1)=2",
        "mote(0, 1, 22)*10 door(0, true) crowd(32, 1)=10 crowd(22, 1)=0");
    e.edge("THE BEAM is that of HOUR ahead of it", goes("mote 2 1 22;open 0", 22, 32),
        goes("mote 2 1 23;open 0", 33), goes("mote 4 1 23", 22),
        goes("mote 2 1 23;open 0;hour 1", 23), goes("mote 2 1 3;open 0;hour 998", 13, 23));
  }

  private void motesAndHeavy() {
    e.edge("MOTE: all PUSHES", goes("mote 0 1 22;open 0;open 3;fan 3", 43, 54),
        goes("mote 0 1 22;open 0;open 1;open 2;open 3;fan 2", 23));
    e.edge("then, if WARMTH is 5 or more and HOUR even, a CELL up",
        goes("mote 0 1 42;warm 4", 42, 42, 42), goes("mote 0 1 42;warm 5", 32, 32, 22),
        goes("mote 0 1 42;warm 9", 32, 32, 22), goes("mote 0 1 42;warm 5;hour 1", 42, 32),
        goes("mote 0 1 42;warm 5;hour 998", 32, 32, 32),
        goes("mote 0 1 42;warm 9;hour 999", 42, 42), goes("mote 0 1 2;warm 5", 2),
        goes("mote 0 1 12;warm 5", 2), goes("mote 0 1 10;warm 5", 0),
        goes("mote 0 1 52;warm 5;open 0", 42, 52), goes("mote 0 1 2;warm 5;open 0", 2),
        goes("mote 0 1 2;warm 5;open 2", 2), goes("mote 0 1 22;warm 5;fan 1", 2));
    e.edge("HEAVY: all PUSHES, but only if HOUR is odd",
        goes("mote 1 1 22;open 3;fan 3", 22, 33, 33, 44),
        goes("mote 1 1 22;open 3;fan 3;hour 1", 33, 33),
        goes("mote 1 1 22;open 3;hour 998", 22, 23, 24), goes("mote 1 1 22;fan 1;hour 999", 12, 2));
    e.edge("no warmth", goes("mote 1 1 42;warm 9", 42, 42, 42),
        goes("mote 1 1 42;warm 9;hour 1", 42));
    e.edge("LEAD: as HEAVY, then a CELL down", goes("mote 3 1 22;open 3", 32, 43, 53, 54),
        goes("mote 3 1 42", 52, 52), goes("mote 3 1 52", 52), goes("mote 3 1 52;hour 1;fan 1", 52),
        goes("mote 3 1 52;hour 1;open 2;fan 1", 42), goes("mote 3 1 2;hour 1;open 2", 12),
        goes("mote 3 1 22;warm 9", 32, 42), goes("side 7;mote 3 1 52", 62, 62),
        goes("mote 3 1 45;hour 1", 55, 55));
  }

  private void goldAndSpark() {
    e.edge("GOLD: stays, if it is in THE BEAM", goes("mote 2 1 22;open 0;fan 2;warm 9", 22),
        goes("mote 2 1 50;hour 1;fan 2", 50, 51), goes("mote 2 1 3;hour 999;fan 2", 3, 3, 3));
    e.edge("else as MOTE", goes("mote 2 1 42;warm 5", 32), goes("mote 2 1 42;warm 4", 42),
        goes("mote 2 1 52;open 0", 52), goes("mote 2 1 21;open 0;fan 2", 32),
        goes("mote 2 1 42;warm 5;hour 1", 42));
    e.edge("SPARK: as GOLD", goes("mote 4 1 22;open 0", 22), goes("mote 4 1 22;warm 5", 22),
        goes("mote 4 1 22;open 0;fan 2;warm 9", 22),
        goes("mote 4 1 20;open 0", 31), goes("mote 4 1 3;hour 999;fan 2", 3, 3),
        goes("mote 4 1 20;open 0;fan 2;warm 5", 22));
    e.edge("then, if it wasn't in THE BEAM, a CELL right, if THE BEAM in its ROW (as it is then)"
            + " is in a greater COLUMN",
        goes("mote 4 1 20", 21), goes("mote 4 1 21", 22), goes("mote 4 1 54", 55),
        goes("mote 4 1 43;warm 5", 33), goes("mote 4 1 0;hour 5", 1),
        goes("mote 4 1 22;hour 1", 23), goes("side 7;mote 4 1 65", 66), goes("mote 4 1 33", 33),
        goes("mote 4 1 12;open 0", 22));
    e.edge("left, if in a lesser one", goes("mote 4 1 25", 24), goes("mote 4 1 1", 0),
        goes("mote 4 1 23", 22), goes("mote 4 1 23;open 1", 22), goes("mote 4 1 35;open 2", 24),
        goes("mote 4 1 55;hour 1", 54), goes("mote 4 1 32;open 2", 22));
    e.edge("LAZY: the DOORS' PUSHES alone", goes("mote 5 1 22;open 0;fan 2;warm 9", 32, 42),
        goes("mote 5 1 22;fan 2;warm 9", 22, 22), goes("mote 5 1 52;open 0;open 2", 42, 42),
        goes("mote 5 1 22;open 0;hour 1", 32, 42));
  }

  private void hoursAndVotes() {
    e.edge("Then HOUR is 1 more (999 at most)", "steps(1) status(5)=1",
        "tell(2, 997) steps(1) status(5)=998", "tell(2, 998) steps(1) status(5)=999",
        "tell(2, 999) steps(1) status(5)=999", "tell(2, 976) steps(24) status(5)=999",
        "tell(2, 974) steps(24) status(5)=998", "mote(1, 1, 1) steps(1)=1",
        "mote(1, 1, 3) tell(2, 998) votes(0, 0)=0 votes(1, 0)=1 votes(24, 0)=1");
    e.edge("VOTES: all a of MOTES in THE BEAM of HOUR together", "votes(0, 0)=0",
        "read('mote 0 9 0;mote 0 8 11;mote 0 7 12') votes(0, 0)=17",
        "read('mote 0 9 1;mote 0 7 12') votes(0, 0)=0 votes(1, 0)=16",
        "mote(0, 9, 55)*10 votes(0, 0)=90", "read('mote 0 3 22;mote 0 5 22') votes(0, 0)=8");
    e.edge("It CARRIES, if twice these are more than all a of all MOTES", "votes(0, 1)=0",
        "mote(0, 0, 0) votes(0, 1)=0", "mote(0, 1, 0) votes(0, 1)=1",
        "read('mote 0 3 0;mote 0 3 1') votes(0, 1)=0",
        "read('mote 0 4 0;mote 0 3 1') votes(0, 1)=1",
        "read('mote 0 3 0;mote 0 4 1') votes(0, 1)=0",
        "read('mote 0 2 0;mote 0 1 1') votes(0, 1)=1",
        "mote(0, 9, 0)*5 mote(0, 9, 1)*5 votes(0, 1)=0",
        "mote(0, 9, 0)*6 mote(0, 9, 1)*4 votes(0, 1)=1");
  }
}
