/** Terms: WHAT COMES OF IT. */
final class ComesEdges {
  /** Up and down between 30 and 20; when the last hour has come, it goes up twice: to 10. */
  static final String LATE_LEAD = "mote 3 1 30;open 2;fan 1;hour 977";
  /** The same, but a step later: what was to come behind 24 comes behind 25. */
  static final String TOO_LATE_LEAD = "mote 3 1 20;open 2;fan 1;hour 976";
  /** In an even column it goes between 52 and 42, never lit; the last hour keeps it in 52, lit. */
  static final String LATE_LIT = "mote 0 1 52;open 0;warm 5;hour 976";
  static final String TOO_LATE_LIT = "mote 0 1 42;open 0;warm 5;hour 975";
  /** Behind one step by the fan up: 3 votes, but 5 if door 0 or 1 is turned, 2 if 2 or 3 is. */
  static final String WHIPS = "mote 0 3 22;mote 0 5 23;mote 0 2 32";

  private final Edges e;

  private ComesEdges(Edges e) {
    this.e = e;
  }

  static void tell(Edges e) {
    ComesEdges edges = new ComesEdges(e);
    edges.ahead();
    edges.set();
    edges.whichAndKinds();
    edges.powerAndCentre();
    edges.whips();
    edges.odds();
    edges.sessions();
    edges.draws();
  }

  private void ahead() {
    e.plain("==== 3. WHAT COMES OF IT");
    String hall = "read('mote 0 1 22;mote 3 3 2;mote 4 2 10;open 0;open 3;fan 1;warm 6;hour 990;"
        + "mote 2 4 43;mote 5 5 20;mote 1 9 31;mote 0 2 54;mote 3 7 40;mote 4 6 25;mote 2 8 1')"
        + " image() steps(2) feed(102) row(0, 0, 24) show(1, 3) ";
    e.edge("nothing is changed",
        hall + "moteOf(0, 4) lit(0, 5) where(1, 24) votes(24, 0) votes(24, 1) votes(24, 2)",
        hall + "when(0) when(1) when(2) setting(24, 0) setting(24, 1) which(0, 24, 0)",
        hall + "kinds(0, 24, 1) centre(24, 0) centre(24, 1) centre(24, 2) whips(24, 0)"
            + " whips(24, 1)",
        hall + "answer(24, 2) odds(3, 0) odds(3, 1) first(0) first(1) crowd(55, 24) thick(24)",
        hall + "arrives(0, 0) lights(9) meet(0, 1) beamFor(24) warmthFor(24) bestCell(1, 24)",
        hall + "many(24) runs(24) together(0, 1) round() way(1) walled(24) doorFor(24) stirred()",
        hall + "ofKind(0) judge(0, 24) behind(0, 24, 0) behind(0, 24, 1) behind(0, 24, 19)",
        hall + "says(1, 2) says(1, 0) element(0, 0) holds(1) status(8)");
    e.edge("Behind t STEPS (0 to 24)",
        "mote(5, 1, 20) door(3, true) where(0, 0)=20 where(0, 1)=21 where(0, 5)=25 where(0, 24)=25",
        "read('" + LATE_LEAD + "') where(0, 22)=30 where(0, 23)=20 where(0, 24)=10",
        "mote(0, 1, 0) where(0, 25)=BAD", "mote(0, 1, 0) where(0, -1)=BAD", "votes(25, 0)=BAD",
        "votes(-1, 0)=BAD", "votes(25, 1)=BAD", "votes(-1, 1)=BAD");
    e.plain("all set as it is: where a MOTE is, VOTES, whether it CARRIES");
    e.edge("FIRST: the least t by which it CARRIES", "mote(0, 1, 0) when(0)=0",
        "mote(0, 1, 20) when(0)=4", "mote(0, 1, 1) when(0)=1",
        "read('" + LATE_LIT + "') votes(23, 1)=0 votes(24, 1)=1 when(0)=24",
        "read('mote 0 1 0;mote 0 1 1') when(0)=NONE", "read('mote 0 1 0;mote 0 2 1') when(0)=1");
    e.edge("NONE", "when(0)=NONE", "mote(0, 0, 0) when(0)=NONE",
        "mote(0, 1, 0) tell(2, 999) when(0)=NONE", "read('" + TOO_LATE_LIT + "') when(0)=NONE");
    e.edge("BEST: the t by which VOTES are most", "mote(0, 1, 20) when(1)=4",
        "read('mote 0 3 0;mote 0 2 15;open 3') when(1)=4 when(2)=5",
        "read('" + LATE_LIT + "') when(1)=24 when(2)=1");
    e.edge("of several the least", "when(1)=0", "mote(0, 1, 0) when(1)=0",
        "mote(0, 1, 1) when(1)=1", "mote(0, 1, 0) tell(2, 999) when(1)=0 when(2)=0",
        "read('mote 0 2 2;mote 0 2 1') when(1)=1");
  }

  private void set() {
    e.edge("A SETTING is 10 times DOORS (as bits, 0 to 15) and FAN",
        "fill(0, 1, 0, 4, 10, 84, 150, 154) judge(0, 6)=NONE", "fill(0, 1, 155) judge(0, 1)=0",
        "fill(0, 1, 160) judge(0, 1)=0", "fill(0, 1, 5) judge(0, 1)=0",
        "fill(0, 1, 9) judge(0, 1)=0", "fill(0, 1, 15) judge(0, 1)=0",
        "fill(0, 1, -1) judge(0, 1)=0", "fill(0, 1, -10) judge(0, 1)=0",
        "fill(0, 1, 164) judge(0, 1)=0",
        "fill(0, 1, 134, 3) done(0, 1)=0 status(2)=13 status(3)=4");
    e.edge("SET for t: the SETTING that differs least from what there is"
            + " (each DOOR that differs counts 1, the FAN, if it does, 1)",
        "read('mote 0 1 22;open 3') setting(1, 0)=0 setting(1, 1)=80",
        "read('mote 0 1 22;fan 4') setting(1, 0)=1 setting(1, 1)=1",
        "read('mote 5 1 22') setting(1, 0)=1 setting(1, 1)=40",
        "read('mote 0 1 22;open 0') setting(1, 0)=2 setting(1, 1)=1",
        "read('mote 0 1 22;open 0;open 1;fan 3') setting(1, 0)=3 setting(1, 1)=1",
        "read('mote 0 1 23;fan 3') setting(1, 0)=1 setting(1, 1)=0",
        "read('" + ALL_FIVE + "') setting(1, 0)=5 setting(1, 1)=151");
    e.edge("by which, set now, it CARRIES behind t STEPS",
        "read('mote 0 1 22;fan 4') setting(0, 0)=0 setting(0, 1)=4",
        "read('mote 0 1 22;open 3') votes(1, 1)=1 setting(1, 1)=80",
        "read('mote 1 1 22') setting(1, 1)=NONE", "read('mote 1 1 23') setting(1, 1)=0");
    e.edge("how many differences (NONE: by none)", "setting(0, 0)=NONE",
        "mote(0, 0, 0) setting(0, 0)=NONE", "mote(0, 1, 1) setting(0, 0)=NONE",
        "mote(0, 1, 0) setting(0, 0)=0", "mote(0, 1, 1) setting(0, 1)=NONE");
    e.edge("the SETTING, of several the least number",
        "mote(0, 1, 22) setting(1, 0)=1 setting(1, 1)=1",
        "read('mote 0 1 22;open 0;fan 2') setting(1, 0)=1 setting(1, 1)=2",
        "read('mote 5 1 22;fan 3') setting(1, 1)=43");
  }

  /**
   * Behind one step by beam 2 lit are 03, 14, 25, 30, 41 and 52. More than half is what the first
   * three weigh together. The second comes to 41 if doors 2 and 3 are open; then the first stays in
   * 14 only if 0 and 1 are, too; then the third is lit only by fan 1 or 2.
   */
  private static final String ALL_FIVE = "mote 5 3 14;mote 5 3 50;mote 0 3 13;mote 1 8 0;beam 2";

  private void whichAndKinds() {
    e.edge("WHICH: how many SETTINGS bring all MOTES behind t STEPS to told CELLS"
            + " (a ROW, one for each MOTE in order)",
        "mote(0, 1, 22) fill(0, 0, 22) which(0, 0, 0)=80",
        "mote(0, 1, 22) fill(0, 0, 23) which(0, 0, 0)=0",
        "mote(0, 1, 22) fill(0, 0, 33) which(0, 1, 0)=5",
        "mote(0, 1, 22) fill(0, 0, 22) which(0, 1, 0)=12",
        "mote(0, 1, 22) mote(5, 1, 22) fill(0, 0, 33, 32) which(0, 1, 0)=2",
        "mote(0, 1, 22) mote(5, 1, 22) fill(0, 0, 32, 33) which(0, 1, 0)=1 which(0, 1, 1)=94",
        "mote(0, 1, 22) mote(0, 1, 22) fill(0, 0, 22, 23) which(0, 1, 0)=0",
        "row(0, 0, 0) which(0, 24, 0)=80", "mote(0, 1, 22) fill(0, 0, 22, 99) which(0, 0, 0)=80");
    e.edge("the least such (NONE)", "mote(0, 1, 22) fill(0, 0, 22) which(0, 0, 1)=0",
        "mote(0, 1, 22) fill(0, 0, 23) which(0, 0, 1)=NONE",
        "mote(0, 1, 22) fill(0, 0, 33) which(0, 1, 1)=12", "row(0, 0, 0) which(0, 24, 1)=0",
        "mote(0, 1, 22) door(3, true) tell(0, 4) fill(0, 0, 33) which(0, 1, 1)=12",
        "read('mote 5 1 50;mote 5 1 14;mote 0 1 13') fill(0, 0, 41, 14, 12) which(0, 1, 0)=1"
            + " which(0, 1, 1)=154");
    e.edge("KINDS of a MOTE by a told WAY (a ROW of CELLS, one behind each STEP from now)",
        "mote(0, 1, 22) row(0, 0, 0) kinds(0, 0, 0)=63",
        "read('mote 0 1 22;open 0') fill(0, 0, 32, 42, 52, 52) kinds(0, 4, 0)=33 kinds(0, 1, 0)=41",
        "read('mote 0 1 22;open 0') fill(0, 0, 22, 32, 42, 52) kinds(0, 4, 0)=4");
    e.edge("KINDS (bits) by which it would go so, all set as it is",
        "read('mote 3 1 22;open 0;fan 2') fill(0, 0, 33) kinds(0, 1, 0)=1",
        "read('mote 3 1 22;open 0;fan 2') fill(0, 0, 22) kinds(0, 1, 0)=22",
        "read('mote 3 1 22;open 0;fan 2') fill(0, 0, 32) kinds(0, 1, 0)=40",
        "read('mote 3 1 22;open 0;fan 2') fill(0, 0, 23) kinds(0, 1, 0)=0",
        "read('mote 3 1 22;open 0;fan 2') fill(0, 0, 22, 34) kinds(0, 2, 0)=16",
        "mote(4, 1, 0) row(0, 0, 40) kinds(0, 40, 0)=39");
  }

  private void powerAndCentre() {
    e.edge("POWER of a MOTE: how many sets of all others weigh together not more than half of"
            + " all, but do with it", "mote(0, 5, 0) moteOf(0, 4)=1",
        "mote(0, 0, 0) moteOf(0, 4)=0", "mote(0, 2, 0)*2 moteOf(0, 4)=1 moteOf(1, 4)=1",
        "mote(0, 1, 0)*3 moteOf(0, 4)=2",
        "mote(0, 4, 0) mote(0, 2, 0) mote(0, 1, 0) moteOf(0, 4)=4 moteOf(1, 4)=0 moteOf(2, 4)=0",
        "mote(0, 9, 0) mote(0, 0, 0)*9 moteOf(0, 4)=512 moteOf(9, 4)=0",
        "mote(0, 9, 0)*10 moteOf(0, 4)=126 moteOf(9, 4)=126",
        "mote(0, 2, 0) mote(0, 1, 0)*2 moteOf(0, 4)=3 moteOf(1, 4)=1");
    e.edge("CENTRE behind t: 1000 times all ROWS (or COLUMNS) of MOTES together, by how many"
            + " there are (cut)",
        "mote(0, 1, 0) mote(0, 1, 23) mote(0, 1, 55) centre(0, 0)=2333 centre(0, 1)=2666",
        "mote(0, 1, 55) centre(0, 0)=5000 centre(0, 1)=5000",
        "mote(0, 1, 0) centre(0, 0)=0 centre(0, 1)=0",
        "side(7) mote(0, 1, 66)*10 centre(0, 0)=6000 centre(0, 1)=6000",
        "mote(0, 1, 0)*6 mote(0, 1, 15) centre(0, 0)=142 centre(0, 1)=714",
        "read('mote 0 1 20;open 3') centre(24, 1)=5000 centre(0, 1)=0");
    e.edge("SPREAD: the most ROWS and COLUMNS together between two MOTES",
        "mote(0, 1, 0) mote(0, 1, 55) centre(0, 2)=10",
        "mote(0, 1, 5) mote(0, 1, 50) centre(0, 2)=10",
        "mote(0, 1, 50) mote(0, 1, 5) centre(0, 2)=10",
        "mote(0, 1, 55) mote(0, 1, 0) centre(0, 2)=10",
        "side(7) mote(0, 1, 6) mote(0, 1, 60) centre(0, 2)=12", "mote(0, 1, 33)*2 centre(0, 2)=0",
        "mote(0, 1, 22) mote(0, 1, 23) mote(0, 1, 32) centre(0, 2)=2",
        "mote(0, 1, 9)=BAD mote(0, 1, 0) mote(0, 1, 22) mote(0, 1, 3) mote(0, 1, 41)"
            + " centre(0, 2)=6");
  }

  private void whips() {
    e.edge("WHIPS for t: one sets the FAN (0 to 4)", "read('" + WHIPS + "') whips(1, 1)=1",
        "read('" + WHIPS + ";fan 4') whips(1, 1)=1 whips(1, 0)=2",
        "read('mote 5 1 23;mote 5 2 22;mote 0 3 45;mote 0 4 50') whips(1, 1)=4 whips(1, 0)=4",
        "whips(0, 1)=0");
    e.edge("then the other one turns one DOOR (open or shut; 0 to 3) or none (4)",
        "read('" + WHIPS + "') answer(1, 1)=2", "mote(5, 1, 22) answer(0, 0)=0",
        "read('mote 5 5 0;open 3;open 2') answer(1, 0)=3",
        "read('mote 5 5 0;open 3') answer(1, 0)=0",
        "read('mote 0 1 22;mote 0 5 23;mote 0 5 32') answer(1, 1)=4");
    e.edge("VALUE: what is the most VOTES behind t STEPS the one can get sure, the other one"
            + " having least of them", "whips(24, 0)=0", "mote(0, 5, 22) whips(0, 0)=5",
        "mote(0, 5, 22) whips(1, 0)=0", "mote(1, 5, 23) whips(1, 0)=5",
        "read('" + WHIPS + "') whips(1, 0)=2 whips(0, 0)=3", "mote(1, 9, 23)*10 whips(1, 0)=90");
    e.edge("the FAN by which, of several the least", "mote(0, 5, 22) whips(0, 1)=0 whips(1, 1)=0",
        "mote(1, 5, 23) tell(0, 3) whips(1, 1)=0",
        "read('" + WHIPS + "') answer(1, 1)=2 answer(1, 2)=2 whips(1, 1)=1");
    e.edge("the other one's answer to a FAN, of several the least", "mote(0, 5, 22) answer(0, 4)=0",
        "read('" + WHIPS + "') answer(1, 1)=2 answer(1, 0)=0",
        "read('mote 0 5 22;mote 0 1 23;mote 0 5 32') answer(1, 1)=0");
  }

  private void odds() {
    e.edge("ODDS for t (0 to 3)", "mote(0, 9, 0) odds(0, 0)=1000000 odds(0, 1)=9000",
        "mote(0, 9, 0) odds(1, 0)=203125", "mote(0, 9, 0) odds(4, 0)=BAD",
        "mote(0, 9, 0) odds(-1, 0)=BAD",
        "read('mote 1 9 0;beam 4') odds(2, 0)=656250 odds(3, 0)=203125");
    e.edge("at each STEP each DOOR is open by CHANCE of 12 ways",
        "read('mote 0 7 0;chance 12;beam 4') odds(1, 0)=0 odds(3, 0)=1000000 odds(3, 1)=7000",
        "read('mote 0 7 0;chance 0;beam 3') odds(3, 0)=1000000 odds(2, 0)=0",
        "read('mote 0 7 0;chance 6') odds(1, 0)=375000",
        "read('mote 0 7 0;chance 11') odds(1, 0)=846643");
    e.edge("whatever it is now", "read('mote 0 9 0;open 0;open 1') odds(1, 0)=203125 status(2)=3",
        "read('mote 0 9 0;open 3;chance 0') odds(1, 0)=0",
        "read('mote 0 9 0;chance 12') odds(1, 0)=1000000");
    e.edge("of 1,000,000 (cut), how likely it CARRIES behind t STEPS",
        "read('mote 0 9 0;chance 1') odds(1, 0)=76967", "odds(3, 0)=0",
        "read('mote 0 9 0;mote 0 9 55') odds(1, 0)=62500",
        "read('mote 0 9 0;mote 0 9 1') odds(0, 0)=0");
    e.edge("1000 times the mean of VOTES (cut)", "read('mote 0 9 0;chance 1') odds(1, 1)=692",
        "mote(0, 9, 0) odds(1, 1)=1828", "odds(3, 1)=0", "mote(0, 9, 0)*10 odds(0, 1)=90000",
        "mote(0, 9, 0)*10 tell(4, 12) tell(3, 4) odds(3, 1)=90000");
  }

  private void sessions() {
    e.edge("A told SESSION: a ROW of SETTINGS, each for one STEP",
        "mote(0, 1, 22) fill(0, 1, 10, 2, 81) behind(0, 0, 10)=22 behind(0, 1, 10)=32"
            + " behind(0, 2, 10)=33 behind(0, 3, 10)=24",
        "mote(5, 1, 0) row(0, 1, 40) judge(0, 40)=NONE behind(0, 40, 10)=0 done(0, 40)"
            + " status(5)=40");
    e.edge("WRONG: the first element that is none", "fill(0, 1, 5) judge(0, 1)=0",
        "fill(0, 1, 0, 4, 155, 5) judge(0, 4)=2",
        "row(0, 1, 40) set(0, 39, -1) judge(0, 40)=39 judge(0, 39)=NONE",
        "fill(0, 0, 124, 154) judge(0, 2)=1", "fill(0, 3, 4294967296) judge(0, 1)=0",
        "fill(0, 3, LMIN) judge(0, 1)=0", "fill(0, 3, LMAX) judge(0, 1)=0",
        "fill(0, 2, MIN) judge(0, 1)=0");
    e.edge("NONE", "row(0, 0, 0) judge(0, 0)=NONE", "fill(0, 1, 154, 0) judge(0, 2)=NONE",
        "fill(0, 4, 0, 1) judge(0, 2)=NONE", "fill(0, 2, 4294967296) judge(0, 1)=NONE");
    e.plain("BEHIND it: VOTES, whether it CARRIES, where a MOTE is");
    e.plain("IN TRUTH: STEPS; a SESSION happens");
    e.edge("the last SETTING stays",
        "fill(0, 1, 10, 2, 81) done(0, 3) status(2)=8 status(3)=1 status(5)=3",
        "fill(0, 1, 10, 2, 81) door(1, true) tell(0, 4) done(0, 0) status(2)=2 status(3)=4"
            + " status(5)=0", "fill(0, 1, 154, 0) done(0, 1) status(2)=15 status(3)=4",
        "fill(0, 1, 154, 0) done(0, 2) status(2)=0 status(3)=0");
  }

  /** From seed 1 the draws' upper halves are 16838, 38526, 10113, 50283: 2, 6, 9, 3 below 12. */
  private void draws() {
    e.edge("By draws, n HOURS: each: DOOR by DOOR: a DRAW below 12: it is open, if it is below"
            + " CHANCE", "tell(4, 2) hours(1) status(2)=0", "tell(4, 3) hours(1) status(2)=1",
        "tell(4, 4) hours(1) status(2)=9", "tell(4, 6) hours(1) status(2)=9",
        "tell(4, 7) hours(1) status(2)=11", "tell(4, 9) hours(1) status(2)=11",
        "tell(4, 10) hours(1) status(2)=15", "tell(4, 12) hours(60) status(2)=15");
    e.edge("else shut",
        "door(0, true) door(1, true) door(2, true) door(3, true) hours(1) status(2)=1",
        "door(3, true) tell(4, 0) hours(1) status(2)=0",
        "tell(4, 12) hours(1) tell(4, 0) hours(60) status(2)=0");
    e.edge("a STEP; how many times it CARRIED behind a STEP",
        "mote(5, 4, 2) hours(1)=1 moteOf(0, 2)=12 status(5)=1",
        "mote(5, 4, 3) hours(1)=0 moteOf(0, 2)=13", "mote(1, 3, 0) tell(4, 0) hours(60)=10",
        "mote(1, 3, 3) tell(4, 0) tell(2, 999) hours(60)=60", "mote(1, 3, 0) tell(4, 0) hours(5)=0",
        "mote(1, 3, 0) tell(4, 0) hours(6)=1");
    e.edge("A DRAW below n: SEED (1 at first)", "status(10)=1", "seed(5)=1",
        "hours(1) status(10)=-999580867");
    e.edge("becomes SEED times 1103515245, and 12345 (an int, wrapping)",
        "seed(1) hours(1) status(10)=-999580867", "seed(0) hours(1) status(10)=-698016724",
        "seed(MIN) hours(1) status(10)=1449466924", "seed(MAX) hours(1) status(10)=1751031067",
        "seed(-1) hours(1) status(10)=-396452581");
    e.edge("its upper 16 bits, no sign, modulo n", "seed(1) tell(4, 6) hours(1) status(2)=9",
        "seed(1) tell(4, 3) hours(1) status(2)=1", "seed(0) tell(4, 1) hours(1) status(2)=5",
        "seed(MIN) tell(4, 1) hours(1) status(2)=2", "seed(MIN) tell(4, 8) hours(1) status(2)=14",
        "seed(MIN) tell(4, 9) hours(1) status(2)=15");
  }
}
