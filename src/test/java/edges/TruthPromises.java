/** Promises 47 to 55: told sessions, what happens in truth, images and the status. */
final class TruthPromises {
  private final Edges e;

  private TruthPromises(Edges e) {
    this.e = e;
  }

  static void tell(Edges e) {
    TruthPromises promises = new TruthPromises(e);
    promises.judge47();
    promises.behind48();
    promises.done49();
    promises.steps50();
    promises.hours51();
    promises.seed52();
    promises.image53();
    promises.back54();
    promises.status55();
  }

  private void judge47() {
    e.promise(47, "judge");
    e.edge("WRONG of a told SESSION by the first n elements (0 to 40) of the ROW in SHELF s",
        "fill(7, 1, 0, 154, 155, 5) judge(7, 4)=2 judge(7, 3)=2 judge(7, 2)=NONE",
        "row(0, 1, 40) set(0, 39, 5) judge(0, 40)=39 judge(0, 39)=NONE",
        "fill(0, 1, 5) judge(0, 1)=0 judge(0, 0)=NONE", "row(0, 1, 40) judge(0, 41)=BAD",
        "row(0, 1, 40) judge(0, -1)=BAD");
    e.edge("NONE", "row(0, 0, 0) judge(0, 0)=NONE status(12)=0 status(15)=0",
        "row(0, 4, 40) judge(0, 40)=NONE", "fill(0, 1, 154) judge(0, 1)=NONE status(12)=0");
    e.refused("BAD SHELF, n", "BAD", "mote(0, 1, 0) row(0, 0, 40) show(1, 0)", "judge(-1, 0)",
        "judge(8, 0)", "judge(MIN, 0)", "judge(MAX, 0)", "judge(0, -1)", "judge(0, 41)",
        "judge(0, MIN)", "judge(0, MAX)", "judge(1, 41)", "judge(1, -1)", "judge(2, 41)",
        "judge(2, -1)");
    e.refused("OTHER", "OTHER", "mote(0, 1, 0) show(0, 0)", "judge(0, 0)", "judge(0, 40)");
    e.refused("NOTHING", "NOTHING", "row(1, 0, 3)", "judge(0, 0)", "judge(7, 40)");
    e.edge("BAD: fewer elements", "fill(0, 1, 0, 5) judge(0, 3)=BAD",
        "row(0, 1, 0) judge(0, 1)=BAD", "row(0, 1, 39) judge(0, 40)=BAD",
        "row(0, 1, 39) judge(0, 39)=NONE");
  }

  private void behind48() {
    e.promise(48, "behind");
    String hall =
        "mote(0, 3, 22) mote(5, 2, 11) door(1, true) tell(0, 4) fill(0, 1, 10, 2, 81, 5) ";
    e.edge("BEHIND it: VOTES (what 0)",
        hall + "behind(0, 0, 0)=5 behind(0, 1, 0)=0 behind(0, 3, 0)=0",
        hall + "tell(3, 5) behind(0, 3, 0)=3",
        "mote(1, 9, 0)*10 row(0, 0, 24) behind(0, 24, 0)=90 behind(0, 23, 0)=0",
        "row(0, 0, 40) behind(0, 40, 0)=0");
    e.edge("whether it CARRIES (1)", hall + "behind(0, 0, 1)=1 behind(0, 3, 1)=0",
        "mote(0, 3, 0) mote(0, 3, 1) row(0, 0, 0) behind(0, 0, 1)=0");
    e.edge("where MOTE 0 to 9 is (10 to 19)",
        hall + "behind(0, 0, 10)=22 behind(0, 3, 10)=24 behind(0, 3, 11)=22",
        "mote(0, 1, 0)*9 mote(0, 1, 55) row(0, 0, 0) behind(0, 0, 19)=55 behind(0, 0, 10)=0",
        "mote(0, 1, 0)*10 row(0, 0, 0) behind(0, 0, 20)=BAD",
        "mote(0, 1, 0)*10 row(0, 0, 0) behind(0, 0, 9)=BAD");
    e.refused("BAD", "BAD", hall + "show(1, 0)", "behind(-1, 0, 0)", "behind(8, 0, 0)",
        "behind(MIN, 0, 0)", "behind(MAX, 0, 0)", "behind(0, -1, 0)", "behind(0, 41, 0)",
        "behind(0, MIN, 0)", "behind(0, MAX, 0)", "behind(1, 41, 0)", "behind(2, -1, 0)");
    e.refused("also what", "BAD", hall + "show(1, 0)", "behind(0, 0, -1)", "behind(0, 0, 2)",
        "behind(0, 0, 9)", "behind(0, 0, 20)", "behind(0, 0, MIN)", "behind(0, 0, MAX)",
        "behind(1, 0, 2)", "behind(2, 0, 9)");
    e.refused("no such MOTE", "BAD", hall + "show(1, 0)", "behind(0, 0, 12)", "behind(0, 0, 19)",
        "behind(1, 0, 12)", "behind(2, 0, 12)", "behind(0, 4, 12)");
    e.refused("OTHER", "OTHER", hall + "show(1, 0)", "behind(1, 0, 0)", "behind(1, 40, 11)");
    e.refused("NOTHING", "NOTHING", hall, "behind(2, 0, 0)", "behind(7, 40, 11)");
    e.refused("BAD", "BAD", hall, "behind(0, 5, 0)", "behind(0, 40, 10)");
    e.edge("STUCK: it is WRONG", hall + "behind(0, 4, 0)=STUCK", hall + "behind(0, 4, 1)=STUCK",
        hall + "behind(0, 4, 11)=STUCK", hall + "behind(0, 3, 0)=0",
        "fill(0, 1, 155, 0) behind(0, 1, 0)=STUCK", "fill(0, 1, 155, 0) behind(0, 0, 0)=0",
        "fill(0, 1, 0, -1) behind(0, 2, 0)=STUCK",
        "row(0, 3, 40) set(0, 39, LMIN) behind(0, 40, 0)=STUCK",
        "row(0, 3, 40) set(0, 39, LMIN) behind(0, 39, 0)=0");
  }

  private void done49() {
    e.promise(49, "done");
    String hall = "mote(0, 3, 22) mote(5, 2, 11) door(1, true) tell(0, 4) tell(3, 5)"
        + " fill(0, 1, 10, 2, 81, 5) ";
    e.edge("It happens in truth: VOTES",
        hall + "done(0, 3)=3 moteOf(0, 2)=24 moteOf(1, 2)=22 status(5)=3 status(2)=8 status(3)=1"
            + " element(0, 2)=81",
        hall + "done(0, 0)=0 moteOf(0, 2)=22 status(5)=0 status(2)=2 status(3)=4",
        "mote(1, 9, 0)*10 row(0, 0, 24) done(0, 24)=90 status(5)=24",
        "tell(2, 999) row(0, 0, 40) done(0, 40)=0 status(5)=999",
        "mote(1, 9, 0) tell(2, 6) row(0, 0, 0) done(0, 0)=9");
    e.refused("BAD", "BAD", hall + "show(1, 0)", "done(-1, 0)", "done(8, 0)", "done(MIN, 0)",
        "done(MAX, 0)", "done(0, -1)", "done(0, 41)", "done(0, MIN)", "done(0, MAX)", "done(1, 41)",
        "done(2, -1)");
    e.refused("OTHER", "OTHER", hall + "show(1, 0)", "done(1, 0)", "done(1, 40)");
    e.refused("NOTHING", "NOTHING", hall, "done(2, 0)", "done(7, 40)");
    e.refused("BAD", "BAD", hall, "done(0, 5)", "done(0, 40)");
    e.edge("STUCK likewise", hall + "done(0, 4)=STUCK moteOf(0, 2)=22 status(5)=0",
        "fill(0, 1, 155, 0) done(0, 1)=STUCK", "fill(0, 1, 155, 0) done(0, 0)=0",
        "fill(0, 1, 10, -1) done(0, 2)=STUCK status(2)=0 done(0, 1)=0 status(2)=1",
        "row(0, 3, 40) set(0, 39, LMAX) done(0, 40)=STUCK");
  }

  private void steps50() {
    e.promise(50, "steps");
    e.edge("STEPS in truth (n 1 to 24): VOTES",
        "mote(0, 3, 0) door(3, true) steps(1)=3 moteOf(0, 2)=1 status(5)=1",
        "mote(1, 9, 0)*10 steps(24)=90 status(5)=24",
        "mote(5, 3, 0) door(3, true) steps(24)=0 moteOf(0, 2)=5", "steps(1)=0",
        "tell(2, 990) steps(24)=0 status(5)=999",
        "read('" + ComesEdges.LATE_LEAD + "') steps(24) moteOf(0, 2)=10");
    e.refused("BAD", "BAD", "mote(0, 1, 20) tell(0, 2)", "steps(0)", "steps(-1)", "steps(25)",
        "steps(MIN)", "steps(MAX)");
  }

  private void hours51() {
    e.promise(51, "hours");
    e.edge("HOURS by draws (n 1 to 60)", "hours(1)=0 status(5)=1", "hours(60)=0 status(5)=60",
        "tell(2, 999) hours(60)=0 status(5)=999", "hours(61)=BAD", "hours(0)=BAD");
    e.edge("how many times it CARRIED", "mote(1, 3, 0) tell(4, 0) hours(60)=10",
        "mote(1, 3, 3) tell(4, 0) tell(2, 999) hours(60)=60",
        "mote(1, 3, 3) tell(4, 0) tell(2, 999) hours(1)=1", "mote(1, 3, 0) tell(4, 0) hours(1)=0",
        "mote(1, 0, 3) tell(4, 0) tell(2, 999) hours(60)=0");
    e.refused("BAD", "BAD", "mote(0, 1, 20) tell(0, 2)", "hours(0)", "hours(-1)", "hours(61)",
        "hours(MIN)", "hours(MAX)");
  }

  private void seed52() {
    e.promise(52, "seed");
    e.edge("SEED becomes v: the one ahead",
        "seed(MIN)=1 seed(MAX)=MIN seed(0)=MAX seed(-1)=0 seed(-2)=-1 status(10)=-2",
        "seed(-5)=1 status(12)=0", "hours(1) seed(1)=-999580867",
        "seed(-2) seed(1)=-2 status(12)=0");
  }

  private void image53() {
    e.promise(53, "image");
    String other = "side(7) mote(1, 2, 66) put(0, 1) door(0, true) tell(0, 3) tell(1, 9)"
        + " tell(2, 999) tell(3, 6) tell(4, 12) seed(9) ";
    String asKept = "back()=1 status(0)=1 status(1)=6 status(2)=8 status(3)=2 status(4)=4"
        + " status(5)=5 status(6)=3 status(7)=7 status(10)=77 moteOf(0, 0)=4 moteOf(0, 1)=8"
        + " moteOf(0, 2)=22 mote(0, 1, 66)=BAD";
    e.edge("All is kept",
        "mote(4, 8, 22) door(3, true) tell(0, 2) tell(1, 4) tell(2, 5) tell(3, 3) tell(4, 7)"
            + " seed(77) image()=1 " + other + asKept,
        "image()=1 mote(0, 1, 0)*10 back()=1 status(0)=0",
        "mote(0, 1, 0)*10 image()=1 put(9, 55) put(0, 55) back()=1 moteOf(9, 2)=0 moteOf(0, 2)=0",
        "tell(2, 5) image()=1 tell(2, 6) image()=1 tell(2, 7) back()=1 status(5)=6",
        "image()=1 steps(3) back()=1 steps(2) back()=1 status(5)=0");
    e.edge("but THE TAPE, SHELVES and REFUSALS: 1",
        "feeds('fan') image()=1 wipe() back()=1 status(9)=0",
        "image()=1 feeds('fan 4') back()=1 status(9)=5 hall()=1 status(3)=4",
        "fill(0, 3, 5) image()=1 set(0, 0, 6) back()=1 element(0, 0)=6",
        "image()=1 row(0, 3, 2) back()=1 holds(0)=3",
        "row(0, 3, 2) image()=1 show(0, NONE) back()=1 holds(0)=NONE",
        "mote(0, 1, 0) show(0, 0) image()=1 show(0, NONE) back()=1 holds(0)=NONE",
        "image()=1 side(8)=BAD back()=1 status(12)=1",
        "side(8)=BAD image()=1 status(12)=1 side(8)=BAD back()=1 status(12)=2");
  }

  private void back54() {
    e.promise(54, "back");
    e.edge("All is again as it was kept",
        "mote(2, 3, 22) door(1, true) image() steps(5) hours(3) back()=1 moteOf(0, 2)=22"
            + " status(5)=0 status(2)=2 status(10)=1", "side(7) image() back()=1 status(1)=7",
        "image() side(7) back()=1 status(1)=6 side(7)=6",
        "image() read('mote 1 1 1;fan 3') back()=1 status(0)=0 status(3)=0",
        "tell(2, 5) image() back()=1 tell(2, 9) back()=1 status(5)=5 back()=1 status(5)=5");
    e.edge("SHELVES with MOTES hold those of the same numbers",
        "mote(0, 3, 0) show(7, 0) image() put(0, 55) back()=1 holds(7)=10 says(7, 0)=3",
        "mote(0, 3, 0)*10 image() show(0, 9) back()=1 holds(0)=19",
        "image() mote(0, 3, 0) image() show(0, 0) back()=1 holds(0)=10 status(11)=1");
    e.edge("or NOTHING): 1",
        "image() mote(0, 3, 0) show(0, 0) back()=1 holds(0)=NONE status(11)=0 says(0, 0)=NOTHING",
        "mote(0, 3, 0) image() mote(0, 4, 0) show(0, 0) show(1, 1) show(7, 1) row(2, 0, 1)"
            + " back()=1 holds(0)=10 holds(1)=NONE holds(7)=NONE holds(2)=0 status(11)=2",
        "image() mote(0, 3, 0) show(0, 0) back()=1 mote(5, 7, 0)=0 holds(0)=NONE"
            + " says(0, 0)=NOTHING",
        "mote(0, 1, 0)*9 image() mote(0, 1, 0) show(0, 9) back()=1 holds(0)=NONE");
    e.edge("STUCK: nothing was", "back()=STUCK",
        "mote(0, 1, 0) show(0, 0) steps(3) back()=STUCK holds(0)=10",
        "back()=STUCK image() back()=1", "image() back()=1 status(15)=0");
  }

  private void status55() {
    e.promise(55, "status");
    e.edge("MOTES (0)", "status(0)=0", "mote(0, 0, 0)*10 status(0)=10");
    e.edge("SIDE (1)", "status(1)=6", "side(7) status(1)=7");
    e.edge("DOORS that are open (bits; 2)", "status(2)=0",
        "door(0, true) door(1, true) door(2, true) door(3, true) status(2)=15",
        "door(2, true) status(2)=4");
    e.edge("FAN (3)", "status(3)=0", "tell(0, 4) status(3)=4");
    e.edge("WARMTH (4)", "status(4)=0", "tell(1, 9) status(4)=9");
    e.edge("HOUR (5)", "status(5)=0", "tell(2, 999) status(5)=999");
    e.edge("BEAM (6)", "status(6)=0", "tell(3, 6) status(6)=6");
    e.edge("CHANCE (7)", "status(7)=3", "tell(4, 12) status(7)=12", "tell(4, 0) status(7)=0");
    e.edge("all a together (8)", "status(8)=0", "mote(0, 9, 1)*10 status(8)=90",
        "mote(0, 0, 0) status(8)=0");
    e.edge("THE TAPE's size (9)", "status(9)=0", "feed(32)*250 status(9)=250");
    e.edge("SEED (10)", "status(10)=1", "seed(MIN) status(10)=MIN", "seed(MAX) status(10)=MAX",
        "seed(-1) status(10)=-1");
    e.edge("SHELVES that hold something (11)", "status(11)=0", "row(7, 0, 0) status(11)=1",
        "mote(0, 1, 0) show(0, 0) row(3, 0, 1) status(11)=2",
        "row(0, 0, 1) row(1, 0, 1) row(2, 0, 1) row(3, 0, 1) row(4, 0, 1) status(11)=5",
        "row(0, 0, 1) show(0, NONE) status(11)=0");
    e.edge("12 to 16: REFUSALS -2 to -6",
        "status(12)=0 status(13)=0 status(14)=0 status(15)=0 status(16)=0",
        "side(9)=BAD status(12)=1 status(13)=0 status(14)=0 status(15)=0 status(16)=0",
        "row(0, 0, 1) says(0, 0)=OTHER status(12)=0 status(13)=1 status(14)=0 status(15)=0"
            + " status(16)=0",
        "says(0, 0)=NOTHING status(12)=0 status(13)=0 status(14)=1 status(15)=0 status(16)=0",
        "back()=STUCK status(12)=0 status(13)=0 status(14)=0 status(15)=1 status(16)=0",
        "mote(0, 1, 0)*10 mote(0, 1, 0)=FULL status(12)=0 status(13)=0 status(14)=0 status(15)=0"
            + " status(16)=1");
    e.edge("NONE another what",
        "status(-1)=NONE status(17)=NONE status(MIN)=NONE status(MAX)=NONE status(12)=0",
        "side(9)=BAD status(17)=NONE status(11)=0 status(12)=1");
  }
}
