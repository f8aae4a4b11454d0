/** Promises 9 to 16: the hall is set, by calls and by THE TAPE. */
final class HallPromises {
  private final Edges e;

  private HallPromises(Edges e) {
    this.e = e;
  }

  static void tell(Edges e) {
    HallPromises promises = new HallPromises(e);
    promises.side9();
    promises.mote10();
    promises.put11();
    promises.door12();
    promises.tell13();
    promises.feed14();
    promises.wipe15();
    promises.hall16();
  }

  private void side9() {
    e.promise(9, "side");
    e.edge("SIDE is n: what it was", "side(7)=6 status(1)=7 side(7)=7 mote(0, 1, 66)=0",
        "side(6)=6 status(1)=6");
    e.refused("BAD", "BAD", "", "side(8)", "side(2)", "side(0)", "side(-1)", "side(MIN)",
        "side(MAX)");
    e.edge("also less than it is", "side(5)=BAD", "side(3)=BAD", "side(4)=BAD",
        "side(7) side(6)=BAD", "side(7) side(3)=BAD");
  }

  private void mote10() {
    e.promise(10, "mote");
    e.edge("A MOTE: the number",
        "mote(5, 9, 55)=0 mote(0, 0, 0)=1 moteOf(0, 0)=5 moteOf(0, 1)=9 moteOf(0, 2)=55",
        "mote(0, 1, 0)*9 mote(4, 9, 5)=9 status(0)=10 moteOf(9, 0)=4",
        "mote(0, 1, 3)=0 mote(0, 1, 3)=1 crowd(3, 0)=2");
    e.refused("BAD", "BAD", "mote(0, 1, 0)", "mote(-1, 0, 0)", "mote(6, 0, 0)", "mote(MIN, 0, 0)",
        "mote(MAX, 0, 0)", "mote(0, -1, 0)", "mote(0, 10, 0)", "mote(0, MIN, 0)", "mote(0, MAX, 0)",
        "mote(0, 0, -1)", "mote(0, 0, 6)", "mote(0, 0, 60)", "mote(0, 0, MIN)", "mote(0, 0, MAX)");
    e.edge("FULL", "mote(0, 1, 0)*10 mote(0, 1, 0)=FULL",
        "mote(0, 1, 0)*10 mote(5, 9, 55)=FULL status(8)=10", "mote(0, 1, 0)*10 mote(6, 1, 0)=BAD",
        "mote(0, 1, 0)*10 mote(0, 10, 0)=BAD", "mote(0, 1, 0)*10 mote(0, 1, 6)=BAD",
        "image() mote(0, 1, 0)*10 mote(0, 1, 0)=FULL back() mote(0, 1, 0)=0");
  }

  private void put11() {
    e.promise(11, "put");
    e.edge("A MOTE is in a CELL: where it was",
        "mote(0, 1, 12) put(0, 55)=12 put(0, 0)=55 moteOf(0, 2)=0 put(0, 0)=0",
        "mote(0, 1, 12) mote(0, 1, 34) put(1, 12)=34 moteOf(0, 2)=12 moteOf(1, 2)=12",
        "side(7) mote(0, 1, 0) put(0, 66)=0",
        "mote(0, 1, 0)*10 put(9, 50)=0 moteOf(9, 2)=50 moteOf(8, 2)=0");
    e.refused("BAD", "BAD", "mote(0, 1, 12) mote(0, 1, 34)", "put(-1, 0)", "put(2, 0)",
        "put(10, 0)", "put(MIN, 0)", "put(MAX, 0)", "put(0, -1)", "put(0, 6)", "put(0, 56)",
        "put(0, 60)", "put(0, MIN)", "put(0, MAX)");
  }

  private void door12() {
    e.promise(12, "door");
    e.edge("A DOOR is open, or shut: whether it was open (1, 0)",
        "door(2, true)=0 door(2, true)=1 status(2)=4 door(2, false)=1 status(2)=0 door(2, false)=0",
        "door(0, true)=0 door(3, true)=0 status(2)=9 door(0, false)=1 status(2)=8"
            + " door(3, false)=1 status(2)=0",
        "door(1, true)=0 door(0, true)=0 door(1, false)=1 status(2)=1");
    e.refused("BAD", "BAD", "door(0, true)", "door(-1, true)", "door(4, true)", "door(4, false)",
        "door(-1, false)", "door(32, false)", "door(MIN, false)", "door(MAX, true)");
  }

  private void tell13() {
    e.promise(13, "tell");
    e.edge("FAN (what 0)",
        "tell(0, 4)=0 status(3)=4 status(4)=0 status(5)=0 status(6)=0 status(7)=3",
        "tell(0, 5)=BAD");
    e.edge("WARMTH (1)", "tell(1, 9)=0 status(4)=9 status(3)=0 status(5)=0 status(6)=0 status(7)=3",
        "tell(1, 10)=BAD");
    e.edge("HOUR (2)",
        "tell(2, 999)=0 status(5)=999 status(3)=0 status(4)=0 status(6)=0 status(7)=3",
        "tell(2, 1000)=BAD");
    e.edge("BEAM (3)", "tell(3, 6)=0 status(6)=6 status(3)=0 status(4)=0 status(5)=0 status(7)=3",
        "tell(3, 7)=BAD");
    e.edge("CHANCE (4)",
        "tell(4, 12)=3 status(7)=12 status(3)=0 status(4)=0 status(5)=0 status(6)=0",
        "tell(4, 13)=BAD");
    e.edge("becomes v: what it was", "tell(0, 1)=0 tell(0, 4)=1 tell(0, 0)=4 tell(0, 0)=0",
        "tell(1, 9)=0 tell(1, 0)=9 tell(1, 1)=0", "tell(2, 999)=0 tell(2, 0)=999 tell(2, 1)=0",
        "tell(3, 6)=0 tell(3, 0)=6 tell(3, 1)=0", "tell(4, 12)=3 tell(4, 0)=12 tell(4, 1)=0");
    e.refused("BAD", "BAD", "tell(0, 1) tell(1, 1) tell(2, 1) tell(3, 1) tell(4, 1)", "tell(-1, 0)",
        "tell(5, 0)", "tell(MIN, 0)", "tell(MAX, 0)", "tell(-1, -1)", "tell(5, -1)", "tell(0, -1)",
        "tell(1, -1)", "tell(2, -1)", "tell(3, -1)", "tell(4, -1)", "tell(0, MAX)", "tell(1, MAX)",
        "tell(2, MAX)", "tell(3, MAX)", "tell(4, MAX)", "tell(0, MIN)", "tell(1, MIN)",
        "tell(2, MIN)", "tell(3, MIN)", "tell(4, MIN)");
  }

  private void feed14() {
    e.promise(14, "feed");
    e.edge("THE TAPE gets one byte (0 to 255)", "feed(0)=1 feed(255)=2 status(9)=2",
        "feed(256)=BAD", "feed(-1)=BAD", "feed(0) hall()=FAULT0",
        "feed(102) feed(97) feed(110) feed(49) feed(255) hall()=FAULT4");
    e.edge("behind it: its size",
        "feed(102)=1 feed(97)=2 feed(110)=3 feed(52)=4 hall()=1 status(3)=4",
        "feed(32)*249 feed(32)=250");
    e.refused("BAD", "BAD", "feed(102)", "feed(-1)", "feed(256)", "feed(358)", "feed(MIN)",
        "feed(MAX)");
    e.edge("FULL", "feed(32)*250 feed(32)=FULL status(9)=250", "feed(32)*250 feed(0)=FULL",
        "feed(32)*250 feed(256)=BAD", "feed(32)*250 feed(-1)=BAD",
        "feed(32)*250 wipe()=250 feed(32)=1", "feed(32)*250 hall()=FAULT250 feed(32)=1");
  }

  private void wipe15() {
    e.promise(15, "wipe");
    e.edge("THE TAPE is empty", "feeds('fan') wipe()=3 status(9)=0 hall()=FAULT0",
        "feeds('xx') wipe() read('fan 1')=1", "feed(32)*250 wipe()=250 status(9)=0 feed(32)=1",
        "feeds('fan 1;fan') wipe() read('fan 2')=1 status(3)=2",
        "feeds('fan 1') wipe() read('fa')=FAULT0",
        "feeds('fan 123') wipe() read('fan 1')=1 status(3)=1");
    e.edge("its size ahead", "wipe()=0", "feed(32) wipe()=1 wipe()=0",
        "feed(32)*250 wipe()=250 wipe()=0", "read('fan 1') wipe()=0");
  }

  private void hall16() {
    e.promise(16, "hall");
    e.edge("THE TAPE is a HALL: how many STATEMENTS", "read('fan 1')=1",
        "read('fan 1;fan 1;fan 1')=3", "read('" + "fan0;".repeat(49) + "fan 4')=50",
        "mote(0, 1, 0)*5 read('mote 0 1 0')=1");
    e.edge("-20 less the FAULT", "hall()=-20", "read(' ')=-21", "read('fan 5')=-24",
        "read('" + " ".repeat(250) + "')=-270");
    e.edge("that is refused, too: BAD", "hall()=FAULT0 status(12)=1",
        "read('fan 5')=FAULT4 status(12)=1 status(3)=0",
        "mote(0, 1, 0)*10 read('mote 0 1 0')=FAULT0 status(12)=1 status(16)=0",
        "read('fan 1')=1 status(12)=0",
        "read('fan 1;hour 1000')=FAULT11 hall()=FAULT0 status(12)=2");
    e.edge("THE TAPE is empty then, either way", "read('fan 1')=1 status(9)=0 feed(32)=1",
        "read('fan 5')=FAULT4 status(9)=0 feed(32)=1", "read('fan 1')=1 hall()=FAULT0",
        "read('fan 1')=1 read('fa')=FAULT0",
        "read('fan 5;x')=FAULT4 hall()=FAULT0 read('fan 2')=1 status(3)=2");
  }
}
