/** What it is, and Terms: THE HALL. */
final class HallEdges {
  private final Edges e;

  private HallEdges(Edges e) {
    this.e = e;
  }

  static void tell(Edges e) {
    HallEdges edges = new HallEdges(e);
    edges.calls();
    edges.cells();
    edges.motes();
    edges.settings();
    edges.tokens();
    edges.statements();
    edges.faults();
  }

  private void calls() {
    e.under("What it is");
    e.plain("Motes have a constituency", "==== 1.");
    e.edge("An object is used for at most 512 calls after it has been made; what later calls"
            + " answer is free", "side(7)=6 status(0)*510 status(1)=7",
        "side(8)*511=BAD status(12)=511",
        "mote(1, 9, 0)=0 tell(4, 0)=3 hours(60)*509 status(5)=999",
        "feed(102) feed(97) feed(110) feed(52) status(9)*507=4 hall()=1");
  }

  private void cells() {
    e.under("Terms");
    e.plain("THE HALL");
    e.edge("SIDE n (3 to 7", "side(7)=6 status(1)=7", "side(6)=6", "side(8)=BAD", "side(2)=BAD",
        "side(0)=BAD", "side(-1)=BAD", "side(-7)=BAD", "side(10)=BAD", "side(MAX)=BAD",
        "side(MIN)=BAD");
    e.edge("6 at first", "status(1)=6", "mote(0, 0, 55)=0", "mote(0, 0, 6)=BAD",
        "mote(0, 0, 60)=BAD", "mote(0, 0, 66)=BAD");
    e.edge("CELLS are 10 times the ROW and the COLUMN (0 to n less 1 each)",
        "mote(0, 0, 0)=0 mote(0, 0, 5)=1 mote(0, 0, 50)=2 mote(0, 0, 55)=3 mote(0, 0, 10)=4",
        "mote(0, 0, -1)=BAD", "mote(0, 0, -10)=BAD", "mote(0, 0, 6)=BAD", "mote(0, 0, 7)=BAD",
        "mote(0, 0, 8)=BAD", "mote(0, 0, 9)=BAD", "mote(0, 0, 16)=BAD", "mote(0, 0, 56)=BAD",
        "mote(0, 0, 59)=BAD", "mote(0, 0, 60)=BAD", "mote(0, 0, 65)=BAD", "mote(0, 0, 99)=BAD",
        "mote(0, 0, 100)=BAD", "mote(0, 0, MAX)=BAD", "mote(0, 0, MIN)=BAD",
        "side(7) mote(0, 0, 6)=0 mote(0, 0, 60)=1 mote(0, 0, 66)=2 mote(0, 0, 16)=3",
        "side(7) mote(0, 0, 7)=BAD", "side(7) mote(0, 0, 67)=BAD", "side(7) mote(0, 0, 70)=BAD",
        "side(7) mote(0, 0, 76)=BAD", "side(7) mote(0, 0, -1)=BAD", "side(7) mote(0, 0, 106)=BAD");
  }

  private void motes() {
    e.edge("MOTES have numbers, 0 on",
        "mote(0, 3, 0)=0 mote(0, 4, 0)=1 mote(0, 5, 0)=2 moteOf(0, 1)=3 moteOf(2, 1)=5",
        "moteOf(0, 0)=BAD", "mote(0, 0, 0) moteOf(1, 0)=BAD", "mote(0, 0, 0) moteOf(-1, 0)=BAD");
    e.edge("10 at most",
        "mote(0, 1, 0)*9 mote(0, 2, 3)=9 status(0)=10 moteOf(9, 1)=2 moteOf(9, 2)=3",
        "mote(0, 1, 0)*10 mote(0, 1, 0)=FULL status(0)=10", "mote(0, 1, 0)*10 moteOf(10, 0)=BAD",
        "mote(0, 1, 0)*10 read('mote 0 1 0')=FAULT0 status(0)=10");
    e.edge("each of a KIND: 0 MOTE; 1 HEAVY, 2 GOLD, 5 LAZY",
        "mote(0, 1, 0) mote(1, 1, 0) mote(2, 1, 0) mote(5, 1, 0) moteOf(0, 0)=0 moteOf(1, 0)=1"
            + " moteOf(2, 0)=2 moteOf(3, 0)=5", "mote(6, 1, 0)=BAD", "mote(-1, 1, 0)=BAD",
        "mote(MAX, 1, 0)=BAD", "mote(MIN, 1, 0)=BAD");
    e.edge("each under MOTE", "mote(1, 7, 0) show(0, 0) says(0, 0)=7",
        "mote(2, 7, 0) show(0, 0) says(0, 0)=7", "mote(5, 7, 0) show(0, 0) says(0, 0)=7",
        "mote(0, 7, 0) show(0, 0) says(0, 1)=OTHER", "mote(0, 7, 0) show(0, 0) says(0, 2)=OTHER",
        "mote(0, 7, 0) show(0, 0) says(0, 5)=OTHER", "mote(1, 7, 0) show(0, 0) says(0, 2)=OTHER",
        "mote(2, 7, 0) show(0, 0) says(0, 1)=OTHER", "mote(5, 7, 0) show(0, 0) says(0, 1)=OTHER",
        "mote(1, 7, 0) show(0, 0) says(0, 5)=OTHER");
    e.edge("3 LEAD, under HEAVY",
        "mote(3, 7, 0) show(0, 0) says(0, 1)=10 says(0, 0)=7 says(0, 3)=10 moteOf(0, 0)=3",
        "mote(1, 7, 0) show(0, 0) says(0, 3)=OTHER", "mote(3, 7, 0) show(0, 0) says(0, 2)=OTHER",
        "mote(3, 7, 0) show(0, 0) says(0, 4)=OTHER", "mote(3, 7, 0) show(0, 0) says(0, 5)=OTHER");
    e.edge("4 SPARK, under GOLD",
        "mote(4, 7, 1) show(0, 0) says(0, 2)=0 says(0, 0)=7 says(0, 4)=0 moteOf(0, 0)=4",
        "mote(2, 7, 1) show(0, 0) says(0, 4)=OTHER", "mote(4, 7, 1) show(0, 0) says(0, 1)=OTHER",
        "mote(4, 7, 1) show(0, 0) says(0, 3)=OTHER", "mote(4, 7, 1) show(0, 0) says(0, 5)=OTHER");
    e.edge("a (0 to 9: how much its vote weighs)",
        "mote(0, 0, 0)=0 moteOf(0, 1)=0 votes(0, 0)=0 votes(0, 2)=1",
        "mote(0, 9, 0)=0 moteOf(0, 1)=9 votes(0, 0)=9", "mote(0, -1, 0)=BAD", "mote(0, 10, 0)=BAD",
        "mote(0, MAX, 0)=BAD", "mote(0, MIN, 0)=BAD");
    e.plain("a CELL");
  }

  private void settings() {
    e.edge("DOORS 0 to 3", "door(0, true)=0 status(2)=1", "door(3, true)=0 status(2)=8",
        "door(0, true) door(1, true) door(2, true) door(3, true) status(2)=15", "door(4, true)=BAD",
        "door(4, false)=BAD", "door(-1, true)=BAD", "door(32, true)=BAD",
        "door(0, true) door(32, false)=BAD", "door(MAX, true)=BAD", "door(MIN, true)=BAD");
    e.plain("0 up, 1 right, 2 down, 3 left");
    e.edge("are open or not (none at first)", "status(2)=0",
        "door(0, false)=0 door(1, false)=0 door(2, false)=0 door(3, false)=0",
        "mote(5, 1, 22) where(0, 24)=22 stirred()=0");
    e.edge("FAN (0 to 4", "tell(0, 4)=0 status(3)=4 tell(0, 0)=4 status(3)=0", "tell(0, 5)=BAD",
        "tell(0, -1)=BAD", "tell(0, MAX)=BAD", "tell(0, MIN)=BAD");
    e.edge("0, none, at first", "status(3)=0", "mote(0, 1, 22) where(0, 24)=22 stirred()=0");
    e.edge("WARMTH (0 to 9", "tell(1, 9)=0 status(4)=9 tell(1, 0)=9 status(4)=0", "tell(1, 10)=BAD",
        "tell(1, -1)=BAD", "tell(1, MAX)=BAD", "tell(1, MIN)=BAD");
    e.edge("0 at first", "status(4)=0", "tell(1, 3)=0", "mote(0, 1, 22) where(0, 1)=22");
    e.edge("HOUR (0 at first", "status(5)=0", "tell(2, 3)=0",
        "mote(1, 1, 22) tell(0, 1) stirred()=0");
    e.edge("0 to 999", "tell(2, 999)=0 status(5)=999 tell(2, 0)=999 status(5)=0",
        "tell(2, 1000)=BAD", "tell(2, -1)=BAD", "tell(2, MAX)=BAD", "tell(2, MIN)=BAD");
    e.edge("BEAM (0 to 6", "tell(3, 6)=0 status(6)=6 tell(3, 0)=6 status(6)=0", "tell(3, 7)=BAD",
        "tell(3, -1)=BAD", "side(7) tell(3, 7)=BAD", "tell(3, MAX)=BAD", "tell(3, MIN)=BAD");
    e.edge("0 at first", "status(6)=0", "tell(3, 3)=0", "lit(0, 0)=1");
    e.edge("CHANCE (0 to 12", "tell(4, 12)=3 status(7)=12 tell(4, 0)=12 status(7)=0",
        "tell(4, 13)=BAD", "tell(4, -1)=BAD", "tell(4, MAX)=BAD", "tell(4, MIN)=BAD");
    e.edge("3 at first", "status(7)=3", "tell(4, 5)=3");
  }

  private void tokens() {
    String fifty = "fan0;".repeat(49);
    e.edge("A HALL is read from THE TAPE (bytes, 250 at most)",
        "feed(32)*249 feed(32)=250 status(9)=250", "feed(32)*250 feed(32)=FULL status(9)=250",
        "read('" + fifty + "fan 4')=50 status(3)=4", "read('" + fifty + "fan04')=50 status(3)=4",
        "read('" + fifty + "fan 5')=FAULT249", "read('" + fifty + "fan0;')=FAULT250",
        "read('" + " ".repeat(250) + "')=FAULT250", "read('" + "a".repeat(250) + "')=FAULT0",
        "read('fan" + "0".repeat(247) + "')=FAULT3");
    e.edge("TOKENS, each as long as can be", "read('fanfan 1')=FAULT0", "read('fan1')=1",
        "read('fan 12')=FAULT4", "read('warm 10')=FAULT5", "read('warm 1 0')=FAULT7",
        "read('hour123')=1 status(5)=123", "read('mote 0 0 12')=1 moteOf(0, 2)=12");
    e.edge("WORDS (a .. z)", "read('fana 1')=FAULT0", "read('fanz 1')=FAULT0",
        "read('fan`1')=FAULT3", "read('fan{1')=FAULT3", "read('Fan 1')=FAULT0",
        "read('FAN 1')=FAULT0", "read('fanA 1')=FAULT3", "read('fanZ 1')=FAULT3",
        "read('fan_1')=FAULT3");
    e.edge("NUMBERS (digits)", "read('warm 0')=1", "tell(1, 5) read('warm 0')=1 status(4)=0",
        "read('warm 9')=1 status(4)=9", "read('warm 1/')=FAULT6", "read('warm 1:')=FAULT6",
        "read('warm /')=FAULT5", "read('warm :')=FAULT5", "read('warm +1')=FAULT5",
        "read('warm 1a')=FAULT6", "read('warm \u00b2')=FAULT5");
    e.edge("the SIGN ;", "read('fan 1;fan 2')=2", "read('fan 1,fan 2')=FAULT5",
        "read('fan 1:fan 2')=FAULT5", "read('fan 1<fan 2')=FAULT5", "read(';')=FAULT0");
    e.edge("blanks (32) may stand anywhere between",
        "read(' fan  1 ;  warm 2 ')=2 status(3)=1 status(4)=2",
        "read('fan1;warm2')=2 status(3)=1 status(4)=2", "read('fan 1   ')=1", "read('   fan 1')=1",
        "read('mote   5   9   55')=1 moteOf(0, 2)=55", "read('mote5 9 55')=1",
        "read('fa n 1')=FAULT0", "read('fan 0 1')=FAULT6", "read('mote 5 955')=FAULT7",
        "read('fan\t1')=FAULT3", "read('fan\n1')=FAULT3", "read('fan\u00a01')=FAULT3",
        "read('fan!1')=FAULT3", "read('fan\u001f1')=FAULT3", "read('fan\u00001')=FAULT3");
  }

  private void statements() {
    e.edge("STATEMENTS, one or more", "hall()=FAULT0", "read(' ')=FAULT1", "read('fan 1')=1",
        "read('fan 1;fan 2')=2", "read('fan 1;fan 2;fan 3')=3 status(3)=3");
    e.edge("with ; between", "read('fan 1;fan 2')=2", "read(';fan 1')=FAULT0",
        "read('fan 1;')=FAULT6", "read('fan 1;;fan 2')=FAULT6", "read('fan 1 fan 2')=FAULT6",
        "read('fan 1fan 2')=FAULT5", "read('fan 1;;')=FAULT6", "read('fan;1')=FAULT3",
        "read('mote 0;0 0')=FAULT6");
    e.edge("side N (only as many or more)", "read('side 6')=1 status(1)=6",
        "read('side 7')=1 status(1)=7", "read('side 8')=FAULT5", "read('side 5')=FAULT5",
        "read('side 3')=FAULT5", "read('side 2')=FAULT5", "read('side 0')=FAULT5",
        "read('side 7;side 7')=2", "read('side 7;side 6')=FAULT12", "side(7) read('side 6')=FAULT5",
        "side(7) read('side 7')=1", "read('side 007')=1");
    e.edge("mote K A C", "read('mote 0 0 0')=1 moteOf(0, 0)=0 moteOf(0, 1)=0 moteOf(0, 2)=0",
        "read('mote 5 9 55')=1 moteOf(0, 0)=5 moteOf(0, 1)=9 moteOf(0, 2)=55",
        "read('mote 6 0 0')=FAULT5", "read('mote 0 10 0')=FAULT7", "read('mote 0 0 6')=FAULT9",
        "read('mote 0 0 56')=FAULT9", "read('mote 0 0 60')=FAULT9", "read('mote 0 0 100')=FAULT9",
        "read('mote 0 0 999')=FAULT9", "read('mote 0 0 66')=FAULT9",
        "read('side 7;mote 0 0 66')=2 moteOf(0, 2)=66", "read('mote 0 0 66;side 7')=FAULT9",
        "read('side 7;mote 0 0 67')=FAULT16", "read('side 7;mote 0 0 70')=FAULT16",
        "read('mote 0 0 0 0')=FAULT11", "read('mote 0 0;')=FAULT8");
    e.edge("open D", "read('open 0')=1 status(2)=1", "read('open 3')=1 status(2)=8",
        "read('open 4')=FAULT5", "read('open 3;open 3')=2 status(2)=8", "read('open 32')=FAULT5");
    e.edge("shut D", "door(0, true) read('shut 0')=1 status(2)=0",
        "door(3, true) read('shut 3')=1 status(2)=0", "read('shut 4')=FAULT5",
        "read('shut 3')=1 status(2)=0");
    e.edge("fan F", "tell(0, 2) read('fan 0')=1 status(3)=0", "read('fan 4')=1 status(3)=4",
        "read('fan 5')=FAULT4");
    e.edge("warm N", "tell(1, 2) read('warm 0')=1 status(4)=0", "read('warm 9')=1 status(4)=9",
        "read('warm 10')=FAULT5");
    e.edge("beam N", "tell(3, 2) read('beam 0')=1 status(6)=0", "read('beam 6')=1 status(6)=6",
        "read('beam 7')=FAULT5");
    e.edge("hour N", "tell(2, 2) read('hour 0')=1 status(5)=0", "read('hour 999')=1 status(5)=999",
        "read('hour 1000')=FAULT5");
    e.edge("chance N", "read('chance 0')=1 status(7)=0", "read('chance 12')=1 status(7)=12",
        "read('chance 13')=FAULT7");
    String all = "side 7;mote 4 7 66;open 0;fan 2;warm 3;beam 4;hour 5;chance 6";
    e.edge("All comes to what there is",
        "mote(0, 1, 22) door(3, true) read('" + all
            + "')=8 status(0)=2 status(1)=7 status(2)=9 status(3)=2 status(4)=3 status(5)=5"
            + " status(6)=4 status(7)=6 moteOf(0, 2)=22 moteOf(1, 0)=4 moteOf(1, 1)=7"
            + " moteOf(1, 2)=66");
    e.edge("or nothing",
        "mote(0, 1, 22) door(3, true) read('" + all + ";shut 3;fan 5')=FAULT"
            + (all.length() + 12) + " status(0)=1 status(1)=6 status(2)=8 status(3)=0"
            + " status(4)=0 status(5)=0 status(6)=0 status(7)=3 mote(0, 1, 66)=BAD",
        "read('mote 0 1 0;x')=FAULT11 status(0)=0 mote(0, 2, 1)=0 moteOf(0, 1)=2",
        "read('fan 1;')=FAULT6 status(3)=0", "read('side 7 7')=FAULT7 status(1)=6");
  }

  private void faults() {
    e.edge("The FAULT: the place of the first byte of the first TOKEN that can't stand there",
        "read('x')=FAULT0", "read('   walrus 1')=FAULT3", "read('fan 1;walrus 2')=FAULT6",
        "read('fan walrus')=FAULT4", "read('fan 123;walrus')=FAULT4", "read('1')=FAULT0",
        "read('fan 1 23')=FAULT6", "read('fan;fan;fan')=FAULT3", "read('mote 0 walrus 0')=FAULT7",
        "read('fans 1')=FAULT0", "read('fa 1')=FAULT0", "read('open')=FAULT4",
        "read('ean 1')=FAULT0", "read('gan 1')=FAULT0", "read('fbn 1')=FAULT0",
        "read('fam 1')=FAULT0", "read('fao 1')=FAULT0", "read('fan 1;shup 1')=FAULT6",
        "read('" + "fan0;".repeat(40) + "opex 1')=FAULT200");
    e.edge("also a NUMBER that may not be", "read('fan 999')=FAULT4", "read('fan  5;x')=FAULT5",
        "read('mote 5 9 59')=FAULT9", "read('fan 1;chance 13')=FAULT13",
        "read('mote 9 99 99')=FAULT5");
    e.edge("or has more than 3 digits", "read('fan 001')=1 status(3)=1", "read('fan 0001')=FAULT4",
        "read('hour 0999')=FAULT5", "read('hour 099')=1 status(5)=99", "read('mote 000 009 055')=1",
        "read('mote 0000 0 0')=FAULT5", "read('mote 0 0000 0')=FAULT7",
        "read('mote 0 0 0000')=FAULT9", "read('side 0007')=FAULT5", "read('open 0000')=FAULT5",
        "read('fan 4294967297')=FAULT4", "read('fan 18446744073709551617')=FAULT4",
        "read('warm 0000000000000000000009')=FAULT5");
    e.edge("what there is no room for: its word", "mote(0, 1, 0)*10 read('mote 0 1 0')=FAULT0",
        "mote(0, 1, 0)*10 read('  mote')=FAULT2",
        "mote(0, 1, 0)*10 read('fan 1;mote 0 1 0')=FAULT6 status(3)=0",
        "mote(0, 1, 0)*9 read('mote 0 1 0')=1 status(0)=10",
        "mote(0, 1, 0)*9 read('mote 0 1 0;mote 0 1 0')=FAULT11 status(0)=9",
        "mote(0, 1, 0)*10 read('mote 9 9 9')=FAULT0");
    e.edge("a byte that begins none", "feed(0) hall()=FAULT0", "feed(255) hall()=FAULT0",
        "read('A')=FAULT0", "read('fan -1')=FAULT4", "read('fan 1.')=FAULT5",
        "read('fan\u00e9 1')=FAULT3", "read('fan 1;\u0080')=FAULT6", "read('fan 1 #')=FAULT6");
    e.edge("THE TAPE's size, if it ends too early", "hall()=FAULT0", "read('  ')=FAULT2",
        "read('fan')=FAULT3", "read('fan ')=FAULT4", "read('mote')=FAULT4", "read('mote 0')=FAULT6",
        "read('mote 0 0')=FAULT8", "read('mote 0 0  ')=FAULT10", "read('fan 1;')=FAULT6",
        "read('fan 1;  ')=FAULT8", "read('fan 1;warm')=FAULT10");
  }
}
