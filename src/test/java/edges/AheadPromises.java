/** Promises 17 to 29: what there is and what comes of it. */
final class AheadPromises {
  private final Edges e;

  private AheadPromises(Edges e) {
    this.e = e;
  }

  static void tell(Edges e) {
    AheadPromises promises = new AheadPromises(e);
    promises.moteOf17();
    promises.lit18();
    promises.where19();
    promises.votes20();
    promises.when21();
    promises.setting22();
    promises.which23();
    promises.kinds24();
    promises.centre25();
    promises.whips26();
    promises.answer27();
    promises.odds28();
    promises.first29();
  }

  private void moteOf17() {
    e.promise(17, "moteOf");
    e.plain("Of a MOTE");
    e.edge("KIND (0)", "mote(0, 1, 0) mote(5, 1, 0) moteOf(0, 0)=0 moteOf(1, 0)=5");
    e.edge("a (1)", "mote(0, 0, 0) mote(0, 9, 0) moteOf(0, 1)=0 moteOf(1, 1)=9");
    e.edge("CELL (2)",
        "mote(0, 1, 0) mote(0, 1, 55) moteOf(0, 2)=0 moteOf(1, 2)=55 steps(1) moteOf(1, 2)=55");
    e.edge("whether it is in THE BEAM (3; 1, 0)",
        "mote(0, 1, 22) mote(0, 1, 23) moteOf(0, 3)=1 moteOf(1, 3)=0 tell(2, 1) moteOf(0, 3)=0"
            + " moteOf(1, 3)=1", "mote(0, 1, 50) tell(3, 1) moteOf(0, 3)=1 side(7) moteOf(0, 3)=0",
        "mote(0, 0, 0) moteOf(0, 3)=1");
    e.edge("POWER (4)", "mote(0, 5, 0) moteOf(0, 4)=1", "mote(0, 0, 0) moteOf(0, 4)=0",
        "mote(0, 9, 0) mote(0, 0, 0)*9 moteOf(0, 4)=512 moteOf(1, 4)=0",
        "mote(0, 3, 0) mote(0, 3, 0) moteOf(1, 4)=1");
    e.refused("BAD", "BAD", "mote(0, 1, 0) mote(0, 1, 0)", "moteOf(-1, 0)", "moteOf(2, 0)",
        "moteOf(10, 0)", "moteOf(MIN, 0)", "moteOf(MAX, 0)", "moteOf(0, -1)", "moteOf(0, 5)",
        "moteOf(0, MIN)", "moteOf(0, MAX)", "moteOf(2, 4)", "moteOf(-1, 5)");
  }

  private void lit18() {
    e.promise(18, "lit");
    e.edge("Whether a CELL is in THE BEAM at an HOUR (0 to 999): 1, 0", "lit(0, 0)=1 lit(1, 0)=0",
        "lit(3, 999)=1 lit(4, 999)=0", "tell(2, 999) lit(0, 0)=1 status(5)=999",
        "lit(55, 0)=1 lit(55, 999)=0 lit(52, 999)=1");
    e.refused("BAD", "BAD", "tell(2, 7)", "lit(-1, 0)", "lit(6, 0)", "lit(56, 0)", "lit(60, 0)",
        "lit(66, 0)", "lit(MIN, 0)", "lit(MAX, 0)", "lit(0, -1)", "lit(0, 1000)", "lit(0, MIN)",
        "lit(0, MAX)");
  }

  private void where19() {
    e.promise(19, "where");
    e.edge("Behind t STEPS: where a MOTE is",
        "mote(0, 1, 20) tell(0, 2) where(0, 0)=20 where(0, 1)=21 where(0, 24)=25",
        "read('" + ComesEdges.LATE_LEAD + "') where(0, 23)=20 where(0, 24)=10",
        "mote(0, 1, 0)*9 mote(0, 1, 20) tell(0, 2) where(9, 1)=21 where(0, 1)=1");
    e.refused("BAD", "BAD", "mote(0, 1, 20) mote(0, 1, 30)", "where(-1, 0)", "where(2, 0)",
        "where(MIN, 0)", "where(MAX, 0)", "where(0, -1)", "where(0, 25)", "where(0, MIN)",
        "where(0, MAX)");
  }

  private void votes20() {
    e.promise(20, "votes");
    e.plain("Behind t STEPS");
    e.edge("VOTES (what 0)", "votes(0, 0)=0",
        "mote(1, 9, 0)*10 votes(0, 0)=90 votes(24, 0)=90 votes(1, 0)=0",
        "read('" + ComesEdges.LATE_LIT + "') votes(23, 0)=0 votes(24, 0)=1");
    e.edge("whether it CARRIES (1; 1, 0)", "votes(0, 1)=0",
        "mote(1, 9, 0) votes(0, 1)=1 votes(1, 1)=0 votes(24, 1)=1",
        "mote(0, 3, 0) mote(0, 3, 1) votes(0, 1)=0", "mote(0, 4, 0) mote(0, 3, 1) votes(0, 1)=1");
    e.edge("how many MOTES are in THE BEAM (2)", "votes(0, 2)=0",
        "mote(0, 0, 0) mote(0, 9, 11) mote(0, 5, 1) votes(0, 2)=2",
        "mote(1, 0, 0)*10 votes(0, 2)=10 votes(24, 2)=10 votes(23, 2)=0");
    e.refused("BAD", "BAD", "mote(0, 1, 0)", "votes(-1, 0)", "votes(25, 0)", "votes(MIN, 0)",
        "votes(MAX, 0)", "votes(0, -1)", "votes(0, 3)", "votes(0, MIN)", "votes(0, MAX)");
  }

  private void when21() {
    e.promise(21, "when");
    e.edge("FIRST (what 0; NONE)", "mote(0, 1, 0) when(0)=0", "mote(0, 1, 20) when(0)=4",
        "when(0)=NONE", "read('" + ComesEdges.LATE_LIT + "') when(0)=24",
        "read('" + ComesEdges.TOO_LATE_LIT + "') when(0)=NONE");
    e.edge("BEST (1)", "when(1)=0", "mote(0, 1, 20) when(1)=4",
        "read('" + ComesEdges.LATE_LIT + "') when(1)=24",
        "read('" + ComesEdges.TOO_LATE_LIT + "') when(1)=0",
        "read('mote 1 3 1;mote 1 4 2') when(1)=2 when(0)=2");
    e.edge("VOTES by that (2)", "when(2)=0", "mote(0, 7, 20) when(2)=7",
        "mote(1, 9, 1)*10 when(2)=90", "read('mote 1 3 1;mote 1 4 2') when(2)=4");
    e.refused("BAD", "BAD", "mote(0, 1, 0)", "when(-1)", "when(3)", "when(MIN)", "when(MAX)");
    e.edge("(NONE isn't refused.)", "when(0)=NONE status(12)=0 status(15)=0",
        "mote(0, 1, 0) tell(2, 999) when(0)=NONE status(12)=0 status(13)=0 status(14)=0"
            + " status(15)=0 status(16)=0");
  }

  private void setting22() {
    e.promise(22, "setting");
    e.plain("SET for t");
    e.edge("how many differences (what 0; NONE)", "mote(0, 1, 0) setting(0, 0)=0",
        "mote(0, 1, 22) setting(1, 0)=1", "setting(24, 0)=NONE", "mote(0, 1, 1) setting(0, 0)=NONE",
        "mote(5, 1, 0) setting(24, 0)=0");
    e.edge("the SETTING (1; NONE)", "mote(0, 1, 0) door(3, true) tell(0, 4) setting(0, 1)=84",
        "mote(0, 1, 22) setting(1, 1)=1", "setting(24, 1)=NONE", "mote(0, 1, 1) setting(0, 1)=NONE",
        "mote(0, 1, 0) door(0, true) door(1, true) door(2, true) door(3, true) tell(0, 4)"
            + " setting(0, 1)=154");
    e.refused("BAD", "BAD", "mote(0, 1, 0)", "setting(-1, 0)", "setting(25, 0)", "setting(MIN, 0)",
        "setting(MAX, 0)", "setting(0, -1)", "setting(0, 2)", "setting(0, MIN)", "setting(0, MAX)");
    e.edge("(NONE isn't refused.)",
        "setting(0, 0)=NONE setting(0, 1)=NONE status(12)=0 status(15)=0");
  }

  private void which23() {
    e.promise(23, "which");
    e.plain("WHICH by the ROW in SHELF s behind t STEPS");
    e.edge("how many (what 0)", "mote(0, 1, 22) fill(7, 0, 22) which(7, 0, 0)=80",
        "mote(0, 1, 22) fill(0, 0, 21) which(0, 0, 0)=0",
        "mote(0, 1, 0) fill(0, 3, 4294967296) which(0, 0, 0)=0",
        "mote(0, 1, 0) fill(0, 2, 4294967296) which(0, 0, 0)=80",
        "mote(0, 1, 22) fill(0, 1, 25) which(0, 24, 0)=10 which(0, 24, 1)=2");
    e.edge("the least (1; NONE)", "mote(0, 1, 22) fill(0, 0, 22) which(0, 0, 1)=0",
        "mote(0, 1, 22) fill(0, 0, 21) which(0, 0, 1)=NONE",
        "mote(0, 1, 22) fill(0, 0, -22) which(0, 0, 1)=NONE",
        "mote(0, 1, 22) fill(0, 0, 99) which(0, 24, 1)=NONE");
    e.refused("BAD SHELF, t, what", "BAD", "mote(0, 1, 0) row(0, 0, 1) show(1, 0)",
        "which(-1, 0, 0)", "which(8, 0, 0)", "which(MIN, 0, 0)", "which(MAX, 0, 0)",
        "which(0, -1, 0)", "which(0, 25, 0)", "which(0, MIN, 0)", "which(0, MAX, 0)",
        "which(0, 0, -1)", "which(0, 0, 2)", "which(0, 0, MIN)", "which(0, 0, MAX)",
        "which(1, 25, 0)", "which(1, 0, 2)", "which(2, 25, 0)", "which(2, 0, 2)");
    e.refused("OTHER", "OTHER", "mote(0, 1, 0) show(0, 0)", "which(0, 0, 0)", "which(0, 24, 1)");
    e.refused("NOTHING", "NOTHING", "mote(0, 1, 0)", "which(0, 0, 0)", "which(7, 24, 1)");
    e.edge("BAD: fewer elements than MOTES", "mote(0, 1, 0) row(0, 0, 0) which(0, 0, 0)=BAD",
        "mote(0, 1, 0)*10 row(0, 0, 9) which(0, 0, 1)=BAD",
        "mote(0, 1, 0)*10 row(0, 0, 10) which(0, 0, 0)=80",
        "mote(0, 1, 0)*2 row(0, 0, 40) which(0, 0, 0)=80", "row(0, 0, 0) which(0, 0, 0)=80");
    e.edge("(NONE isn't refused.)",
        "mote(0, 1, 22) fill(0, 0, 21) which(0, 0, 1)=NONE status(12)=0 status(15)=0");
  }

  private void kinds24() {
    e.promise(24, "kinds");
    e.edge("KINDS of a MOTE by the first n elements (0 to 40) of the ROW in SHELF s",
        "mote(0, 1, 22) row(0, 0, 0) kinds(0, 0, 0)=63",
        "mote(0, 1, 22) fill(7, 0, 99) kinds(7, 0, 0)=63 kinds(7, 1, 0)=0",
        "mote(0, 1, 0) row(0, 0, 40) kinds(0, 40, 0)=39 set(0, 39, 1) kinds(0, 39, 0)=39"
            + " kinds(0, 40, 0)=0",
        "mote(0, 1, 0)*9 mote(0, 1, 22) fill(0, 0, 22) kinds(0, 1, 9)=55 kinds(0, 1, 0)=0",
        "mote(0, 1, 0) fill(0, 3, 4294967296) kinds(0, 1, 0)=0",
        "mote(0, 1, 0) row(0, 0, 40) kinds(0, 41, 0)=BAD",
        "mote(0, 1, 0) row(0, 0, 40) kinds(0, -1, 0)=BAD");
    e.refused("BAD SHELF, n, mote", "BAD", "mote(0, 1, 0) row(0, 0, 40) show(1, 0)",
        "kinds(-1, 0, 0)", "kinds(8, 0, 0)", "kinds(MIN, 0, 0)", "kinds(MAX, 0, 0)",
        "kinds(0, -1, 0)", "kinds(0, 41, 0)", "kinds(0, MIN, 0)", "kinds(0, MAX, 0)",
        "kinds(0, 0, -1)", "kinds(0, 0, 1)", "kinds(0, 0, MIN)", "kinds(0, 0, MAX)",
        "kinds(1, 41, 0)", "kinds(1, 0, 1)", "kinds(2, 41, 0)", "kinds(2, 0, 1)");
    e.refused("OTHER", "OTHER", "mote(0, 1, 0) show(0, 0)", "kinds(0, 0, 0)", "kinds(0, 40, 0)");
    e.refused("NOTHING", "NOTHING", "mote(0, 1, 0)", "kinds(0, 0, 0)", "kinds(7, 40, 0)");
    e.edge("BAD: fewer elements", "mote(0, 1, 0) row(0, 0, 3) kinds(0, 4, 0)=BAD",
        "mote(0, 1, 0) row(0, 0, 0) kinds(0, 1, 0)=BAD",
        "mote(0, 1, 0) row(0, 0, 39) kinds(0, 40, 0)=BAD",
        "mote(0, 1, 0) row(0, 0, 3) kinds(0, 3, 0)=39");
  }

  private void centre25() {
    e.promise(25, "centre");
    e.edge("CENTRE behind t: ROWS (what 0)", "mote(0, 1, 50) mote(0, 1, 21) centre(0, 0)=3500",
        "mote(0, 1, 20) tell(0, 3) centre(24, 0)=5000");
    e.edge("COLUMNS (1)", "mote(0, 1, 50) mote(0, 1, 21) centre(0, 1)=500",
        "mote(0, 1, 20) tell(0, 2) centre(24, 1)=5000");
    e.edge("SPREAD (2; 0: fewer than two)", "centre(0, 2)=0", "centre(24, 2)=0",
        "mote(0, 1, 55) centre(0, 2)=0", "mote(0, 1, 55) mote(0, 1, 54) centre(0, 2)=1",
        "mote(0, 1, 0) mote(5, 1, 55) tell(0, 3) centre(24, 2)=5");
    e.refused("BAD", "BAD", "mote(0, 1, 0)", "centre(-1, 0)", "centre(25, 0)", "centre(MIN, 1)",
        "centre(MAX, 2)", "centre(25, 2)", "centre(0, -1)", "centre(0, 3)", "centre(0, MIN)",
        "centre(0, MAX)");
    e.edge("STUCK: no MOTES (0, 1 alone)", "centre(0, 0)=STUCK", "centre(24, 0)=STUCK",
        "centre(0, 1)=STUCK", "centre(24, 1)=STUCK", "centre(0, 2)=0 status(15)=0",
        "centre(25, 0)=BAD", "centre(-1, 1)=BAD", "centre(0, 3)=BAD", "centre(0, -1)=BAD");
  }

  private void whips26() {
    e.promise(26, "whips");
    e.edge("WHIPS for t: VALUE (what 0)", "whips(0, 0)=0", "mote(0, 5, 22) whips(0, 0)=5",
        "read('" + ComesEdges.WHIPS + "') whips(1, 0)=2", "mote(5, 7, 55) whips(24, 0)=0",
        "mote(1, 9, 3)*10 tell(2, 998) whips(1, 0)=90");
    e.edge("the FAN (1)", "whips(24, 1)=0",
        "read('" + ComesEdges.WHIPS + "') whips(1, 1)=1 status(3)=0",
        "read('mote 5 1 23;mote 5 2 22;mote 0 3 45;mote 0 4 50') whips(1, 1)=4");
    e.refused("BAD", "BAD", "mote(0, 1, 0)", "whips(-1, 0)", "whips(25, 0)", "whips(MIN, 0)",
        "whips(MAX, 0)", "whips(0, -1)", "whips(0, 2)", "whips(0, MIN)", "whips(0, MAX)");
  }

  private void answer27() {
    e.promise(27, "answer");
    e.edge("The other one's answer to a FAN (0 to 4) for t",
        "read('" + ComesEdges.WHIPS
            + "') answer(1, 0)=0 answer(1, 1)=2 answer(1, 2)=2 answer(1, 3)=0",
        "mote(0, 1, 0) answer(0, 4)=0 answer(24, 4)=0", "mote(0, 1, 0) answer(0, 5)=BAD",
        "mote(0, 1, 0) answer(0, -1)=BAD");
    e.edge("the DOOR (4: none)",
        "read('mote 0 1 22;mote 0 5 23;mote 0 5 32') answer(1, 1)=4 status(2)=0",
        "read('mote 5 5 0;open 3;open 2') answer(1, 0)=3", "answer(0, 0)=0");
    e.refused("BAD", "BAD", "mote(0, 1, 0)", "answer(-1, 0)", "answer(25, 0)", "answer(MIN, 0)",
        "answer(MAX, 0)", "answer(0, -1)", "answer(0, 5)", "answer(0, MIN)", "answer(0, MAX)");
  }

  private void odds28() {
    e.promise(28, "odds");
    e.edge("ODDS for t: how likely (what 0)", "odds(0, 0)=0", "mote(0, 9, 0) odds(0, 0)=1000000",
        "mote(0, 9, 1) odds(0, 0)=0", "read('mote 0 7 0;chance 12;beam 4') odds(3, 0)=1000000",
        "read('mote 1 9 0;beam 4') odds(3, 0)=203125");
    e.edge("the mean (1)", "odds(0, 1)=0", "mote(0, 9, 0) odds(0, 1)=9000",
        "read('mote 0 7 0;chance 12;beam 4') odds(3, 1)=7000",
        "read('mote 1 9 0;beam 4') odds(3, 1)=1828");
    e.refused("BAD", "BAD", "mote(0, 1, 0)", "odds(-1, 0)", "odds(4, 0)", "odds(24, 0)",
        "odds(MIN, 0)", "odds(MAX, 0)", "odds(0, -1)", "odds(0, 2)", "odds(0, MIN)",
        "odds(0, MAX)");
  }

  private void first29() {
    e.promise(29, "first");
    e.edge("Who has the greatest POWER (what 0)",
        "mote(0, 1, 0) mote(0, 2, 0) mote(0, 4, 0) first(0)=2",
        "mote(0, 0, 0)*9 mote(0, 1, 0) first(0)=9", "mote(0, 1, 0) first(0)=0");
    e.edge("the greatest a (1)", "mote(0, 1, 0) mote(0, 2, 0) mote(0, 4, 0) first(1)=2",
        "mote(0, 0, 0)*9 mote(0, 1, 0) first(1)=9",
        "mote(0, 4, 0) mote(0, 5, 0) mote(0, 5, 0) first(1)=1 first(0)=0");
    e.edge("of several the first", "mote(0, 3, 0)*3 first(0)=0 first(1)=0",
        "mote(0, 0, 0)*2 first(0)=0 first(1)=0",
        "mote(0, 1, 0) mote(0, 3, 0)*3 first(0)=1 first(1)=1");
    e.refused("BAD", "BAD", "mote(0, 1, 0)", "first(-1)", "first(2)", "first(MIN)", "first(MAX)");
    e.edge("STUCK: no MOTES", "first(0)=STUCK", "first(1)=STUCK", "first(2)=BAD", "first(-1)=BAD",
        "image() mote(0, 1, 0) back() first(0)=STUCK");
  }
}
