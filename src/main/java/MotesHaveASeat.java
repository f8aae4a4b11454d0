import java.util.Arrays;

/** A hall of motes that drift and vote; ../shared/DOC.md says what each call answers. */
public final class MotesHaveASeat {
  public static final int NONE = -1;

  private static final int FINE = 0;
  private static final int BAD = -2;
  private static final int OTHER = -3;
  private static final int NOTHING = -4;
  private static final int STUCK = -5;
  private static final int FULL = -6;
  private static final int REFUSAL_SORTS = 5;

  private static final int MOTE = 0;
  private static final int HEAVY = 1;
  private static final int GOLD = 2;
  private static final int LEAD = 3;
  private static final int SPARK = 4;
  private static final int LAZY = 5;
  private static final int LAST_KIND = 5;

  private static final int LEAST_SIDE = 3;
  private static final int MOST_SIDE = 7;
  private static final int MOST_MOTES = 10;
  private static final int MOST_WEIGHT = 9;
  private static final int MOST_VOTES = MOST_MOTES * MOST_WEIGHT;
  private static final int DOORS = 4;
  private static final int DOOR_SETS = 16;
  private static final int LAST_FAN = 4;
  private static final int MOST_WARMTH = 9;
  private static final int WARM = 5;
  private static final int MOST_HOUR = 999;
  private static final int MOST_BEAM = 6;
  private static final int WAYS = 12;
  private static final int MOST_STEPS = 24;
  private static final int MOST_HOURS = 60;
  private static final int MOST_DRAUGHTS = 3;
  private static final int MOST_TAPE = 250;
  private static final int SHELVES = 8;
  private static final int LAST_SORT = 4;
  private static final int MOST_ELEMENTS = 40;
  private static final int FAULT_BASE = -20;

  private final Hall now = new Hall();
  private final Hall kept = new Hall();
  private final Hall trial = new Hall();
  private boolean isKept;
  private final Shelf[] shelves = new Shelf[SHELVES];
  private final Tape tape = new Tape();
  private final Draughts draughts = new Draughts();
  private final int[] refusals = new int[REFUSAL_SORTS];
  private final int[] setsByWeight = new int[MOST_VOTES + 1];

  public MotesHaveASeat() {
    for (int s = 0; s < SHELVES; s++) {
      shelves[s] = new Shelf();
    }
  }

  // ---- shelves

  public int row(int s, int sort, int n) {
    if (!isShelf(s) || sort < 0 || sort > LAST_SORT || !isElementCount(n)) {
      return refuse(BAD);
    }
    shelves[s].takeRow(sort, n);
    return 1;
  }

  public int set(int s, int i, long v) {
    int refusal = rowRefusal(s, true, 0);
    if (refusal != FINE) {
      return refuse(refusal);
    }
    Shelf shelf = shelves[s];
    if (!shelf.hasPlace(i)) {
      return refuse(BAD);
    }
    shelf.elements[i] = narrowed(shelf.sort, v);
    return 1;
  }

  public int copy(int p, int q, int i, int j, int n) {
    if (!isShelf(p) || !isShelf(q)) {
      return refuse(BAD);
    }
    Shelf from = shelves[p];
    Shelf to = shelves[q];
    boolean bothRows = from.held == Shelf.ROW && to.held == Shelf.ROW;
    if (from.held == Shelf.MOTE || to.held == Shelf.MOTE || bothRows && from.sort != to.sort) {
      return refuse(OTHER);
    }
    if (!bothRows) {
      return refuse(NOTHING);
    }
    if (!from.hasPlaces(i, n) || !to.hasPlaces(j, n)) {
      return refuse(BAD);
    }
    System.arraycopy(from.elements, i, to.elements, j, n);
    return n;
  }

  public long element(int s, int i) {
    if (!isShelf(s) || shelves[s].held != Shelf.ROW || !shelves[s].hasPlace(i)) {
      return 0;
    }
    return shelves[s].elements[i];
  }

  public int holds(int s) {
    if (!isShelf(s)) {
      return NONE;
    }
    Shelf shelf = shelves[s];
    switch (shelf.held) {
      case Shelf.ROW:
        return shelf.sort;
      case Shelf.MOTE:
        return 10 + shelf.number;
      default:
        return NONE;
    }
  }

  public int show(int s, int mote) {
    if (!isShelf(s) || mote != NONE && !isMote(mote)) {
      return refuse(BAD);
    }
    if (mote == NONE) {
      shelves[s].clear();
    } else {
      shelves[s].takeMote(mote);
    }
    return 1;
  }

  public int says(int s, int kind) {
    if (!isShelf(s) || !isKind(kind)) {
      return refuse(BAD);
    }
    Shelf shelf = shelves[s];
    if (shelf.held == Shelf.ROW) {
      return refuse(OTHER);
    }
    if (shelf.held != Shelf.MOTE || !isMote(shelf.number)) {
      return refuse(NOTHING);
    }
    int own = now.kindOf[shelf.number];
    if (!isUnder(own, kind)) {
      return refuse(OTHER);
    }
    // Only what it is taken for decides what is asked; how it goes is its own kind's.
    return kind == MOTE ? now.weightOf[shelf.number] : now.next(own, now.cellOf[shelf.number]);
  }

  // ---- the hall

  public int side(int n) {
    if (!now.maySide(n)) {
      return refuse(BAD);
    }
    int was = now.side;
    now.side = n;
    return was;
  }

  public int mote(int kind, int a, int cell) {
    if (!isKind(kind) || a < 0 || a > MOST_WEIGHT || !now.isCell(cell)) {
      return refuse(BAD);
    }
    if (!now.hasRoom()) {
      return refuse(FULL);
    }
    now.add(kind, a, cell);
    return now.count - 1;
  }

  public int put(int mote, int cell) {
    if (!isMote(mote) || !now.isCell(cell)) {
      return refuse(BAD);
    }
    int was = now.cellOf[mote];
    now.cellOf[mote] = cell;
    return was;
  }

  public int door(int door, boolean open) {
    if (door < 0 || door >= DOORS) {
      return refuse(BAD);
    }
    int was = now.doors >> door & 1;
    now.setDoor(door, open);
    return was;
  }

  public int tell(int what, int v) {
    if (!Hall.mayTell(what, v)) {
      return refuse(BAD);
    }
    int was = now.told(what);
    now.becomes(what, v);
    return was;
  }

  // ---- the tape

  public int feed(int letter) {
    if (letter < 0 || letter > 255) {
      return refuse(BAD);
    }
    if (tape.size >= MOST_TAPE) {
      return refuse(FULL);
    }
    tape.add(letter);
    return tape.size;
  }

  public int wipe() {
    int was = tape.size;
    tape.size = 0;
    return was;
  }

  public int hall() {
    trial.takeOver(now);
    int statements = tape.read(trial);
    tape.size = 0;
    if (statements == NONE) {
      refuse(BAD);
      return FAULT_BASE - tape.start;
    }
    now.takeOver(trial);
    return statements;
  }

  // ---- what there is

  public int moteOf(int mote, int what) {
    if (!isMote(mote)) {
      return refuse(BAD);
    }
    switch (what) {
      case 0:
        return now.kindOf[mote];
      case 1:
        return now.weightOf[mote];
      case 2:
        return now.cellOf[mote];
      case 3:
        return bit(now.isLit(now.cellOf[mote]));
      case 4:
        return power(mote);
      default:
        return refuse(BAD);
    }
  }

  public int lit(int cell, int hour) {
    if (!now.isCell(cell) || hour < 0 || hour > MOST_HOUR) {
      return refuse(BAD);
    }
    trial.takeOver(now);
    trial.hour = hour;
    return bit(trial.isLit(cell));
  }

  public int first(int what) {
    if (what < 0 || what > 1) {
      return refuse(BAD);
    }
    if (now.count == 0) {
      return refuse(STUCK);
    }
    int best = 0;
    int most = NONE;
    for (int m = 0; m < now.count; m++) {
      int has = what == 0 ? power(m) : now.weightOf[m];
      if (has > most) {
        most = has;
        best = m;
      }
    }
    return best;
  }

  public int ofKind(int kind) {
    if (!isKind(kind)) {
      return refuse(BAD);
    }
    int many = 0;
    for (int m = 0; m < now.count; m++) {
      many += bit(now.kindOf[m] == kind);
    }
    return many;
  }

  // ---- what comes of it, all set as it is

  public int where(int mote, int t) {
    if (!isMote(mote) || !isTime(t)) {
      return refuse(BAD);
    }
    return walked(mote, now.cellOf[mote], t);
  }

  public int votes(int t, int what) {
    if (!isTime(t) || what < 0 || what > 2) {
      return refuse(BAD);
    }
    lookAhead(t);
    switch (what) {
      case 0:
        return trial.litWeight();
      case 1:
        return bit(trial.carries());
      default:
        return trial.litCount();
    }
  }

  public int when(int what) {
    switch (what) {
      case 0:
        return firstCarried();
      case 1:
        return bestTime();
      case 2:
        lookAhead(bestTime());
        return trial.litWeight();
      default:
        return refuse(BAD);
    }
  }

  public int centre(int t, int what) {
    if (!isTime(t) || what < 0 || what > 2) {
      return refuse(BAD);
    }
    if (what < 2 && now.count == 0) {
      return refuse(STUCK);
    }
    lookAhead(t);
    return what == 2 ? trial.spread() : trial.middle(what == 0);
  }

  public int crowd(int cell, int t) {
    if (!now.isCell(cell) || !isTime(t)) {
      return refuse(BAD);
    }
    lookAhead(t);
    return trial.countIn(cell);
  }

  public int thick(int t) {
    if (!isTime(t)) {
      return refuse(BAD);
    }
    lookAhead(t);
    int best = 0;
    int most = 0;
    for (int m = 0; m < trial.count; m++) {
      int cell = trial.cellOf[m];
      int many = trial.countIn(cell);
      if (many > most || many == most && cell < best) {
        most = many;
        best = cell;
      }
    }
    return best;
  }

  public int arrives(int mote, int cell) {
    if (!isMote(mote) || !now.isCell(cell)) {
      return refuse(BAD);
    }
    trial.takeOver(now);
    for (int t = 0; t <= MOST_STEPS; t++) {
      if (trial.cellOf[mote] == cell) {
        return t;
      }
      trial.goOn(1);
    }
    return NONE;
  }

  public int lights(int mote) {
    if (!isMote(mote)) {
      return refuse(BAD);
    }
    trial.takeOver(now);
    for (int t = 0; t <= MOST_STEPS; t++) {
      if (trial.isLit(trial.cellOf[mote])) {
        return t;
      }
      trial.goOn(1);
    }
    return NONE;
  }

  public int meet(int mote, int other) {
    if (!areTwoMotes(mote, other)) {
      return refuse(BAD);
    }
    trial.takeOver(now);
    for (int t = 0; t <= MOST_STEPS; t++) {
      if (trial.cellOf[mote] == trial.cellOf[other]) {
        return t;
      }
      trial.goOn(1);
    }
    return NONE;
  }

  public int together(int mote, int other) {
    if (!areTwoMotes(mote, other)) {
      return refuse(BAD);
    }
    int times = 0;
    trial.takeOver(now);
    for (int t = 0; t <= MOST_STEPS; t++) {
      times += bit(trial.isLit(trial.cellOf[mote]) && trial.isLit(trial.cellOf[other]));
      trial.goOn(1);
    }
    return times;
  }

  public int runs(int t) {
    if (!isTime(t)) {
      return refuse(BAD);
    }
    int times = 0;
    trial.takeOver(now);
    for (int i = 0; i <= t; i++) {
      times += bit(trial.carries());
      trial.goOn(1);
    }
    return times;
  }

  public int round() {
    trial.takeOver(now);
    for (int t = 1; t <= MOST_STEPS; t++) {
      trial.goOn(1);
      if (trial.standsAs(now)) {
        return t;
      }
    }
    return NONE;
  }

  public int way(int mote) {
    if (!isMote(mote)) {
      return refuse(BAD);
    }
    // A cell is below 64 + 7, so two longs of bits remember where the mote has been.
    long low = 0;
    long high = 0;
    trial.takeOver(now);
    for (int t = 0; t <= MOST_STEPS; t++) {
      int cell = trial.cellOf[mote];
      if (cell < 64) {
        low |= 1L << cell;
      } else {
        high |= 1L << (cell - 64);
      }
      trial.goOn(1);
    }
    return Long.bitCount(low) + Long.bitCount(high);
  }

  public int walled(int t) {
    if (!isTime(t)) {
      return refuse(BAD);
    }
    lookAhead(t);
    int many = 0;
    for (int m = 0; m < trial.count; m++) {
      many += bit(trial.isAtWall(trial.cellOf[m]));
    }
    return many;
  }

  public int stirred() {
    int bits = 0;
    for (int m = 0; m < now.count; m++) {
      if (now.next(now.kindOf[m], now.cellOf[m]) != now.cellOf[m]) {
        bits |= 1 << m;
      }
    }
    return bits;
  }

  public int kinds(int s, int n, int mote) {
    int refusal = rowRefusal(s, isElementCount(n) && isMote(mote), n);
    if (refusal != FINE) {
      return refuse(refusal);
    }
    int bits = 0;
    for (int kind = 0; kind <= LAST_KIND; kind++) {
      if (goesSo(kind, now.cellOf[mote], shelves[s].elements, n)) {
        bits |= 1 << kind;
      }
    }
    return bits;
  }

  // ---- what comes of it, one thing set otherwise

  public int setting(int t, int what) {
    if (!isTime(t) || what < 0 || what > 1) {
      return refuse(BAD);
    }
    int least = NONE;
    int best = NONE;
    for (int doors = 0; doors < DOOR_SETS; doors++) {
      for (int fan = 0; fan <= LAST_FAN; fan++) {
        int differs = Integer.bitCount(doors ^ now.doors) + bit(fan != now.fan);
        if (least != NONE && differs >= least) {
          continue;
        }
        lookAheadBy(doors, fan, t);
        if (trial.carries()) {
          least = differs;
          best = 10 * doors + fan;
        }
      }
    }
    return what == 0 ? least : best;
  }

  public int many(int t) {
    if (!isTime(t)) {
      return refuse(BAD);
    }
    int carrying = 0;
    for (int doors = 0; doors < DOOR_SETS; doors++) {
      for (int fan = 0; fan <= LAST_FAN; fan++) {
        lookAheadBy(doors, fan, t);
        carrying += bit(trial.carries());
      }
    }
    return carrying;
  }

  public int which(int s, int t, int what) {
    int refusal = rowRefusal(s, isTime(t) && what >= 0 && what <= 1, now.count);
    if (refusal != FINE) {
      return refuse(refusal);
    }
    int found = 0;
    int least = NONE;
    for (int doors = 0; doors < DOOR_SETS; doors++) {
      for (int fan = 0; fan <= LAST_FAN; fan++) {
        lookAheadBy(doors, fan, t);
        if (trial.standsAsTold(shelves[s].elements)) {
          found++;
          least = least == NONE ? 10 * doors + fan : least;
        }
      }
    }
    return what == 0 ? found : least;
  }

  public int whips(int t, int what) {
    if (!isTime(t) || what < 0 || what > 1) {
      return refuse(BAD);
    }
    int most = NONE;
    int best = 0;
    for (int fan = 0; fan <= LAST_FAN; fan++) {
      lookAheadBy(turned(leastDoor(fan, t)), fan, t);
      int sure = trial.litWeight();
      if (sure > most) {
        most = sure;
        best = fan;
      }
    }
    return what == 0 ? most : best;
  }

  public int answer(int t, int fan) {
    if (!isTime(t) || fan < 0 || fan > LAST_FAN) {
      return refuse(BAD);
    }
    return leastDoor(fan, t);
  }

  public int doorFor(int t) {
    if (!isTime(t)) {
      return refuse(BAD);
    }
    int most = NONE;
    int best = 0;
    for (int door = 0; door <= DOORS; door++) {
      lookAheadBy(turned(door), now.fan, t);
      int got = trial.litWeight();
      if (got > most) {
        most = got;
        best = door;
      }
    }
    return best;
  }

  public int beamFor(int t) {
    if (!isTime(t)) {
      return refuse(BAD);
    }
    int most = NONE;
    int best = 0;
    for (int beam = 0; beam <= MOST_BEAM; beam++) {
      trial.takeOver(now);
      trial.beam = beam;
      trial.goOn(t);
      int got = trial.litWeight();
      if (got > most) {
        most = got;
        best = beam;
      }
    }
    return best;
  }

  public int warmthFor(int t) {
    if (!isTime(t)) {
      return refuse(BAD);
    }
    // Nothing is told of warmth but whether it is 5 or more, so two of the ten stand for all.
    for (int warmth = 0; warmth <= WARM; warmth += WARM) {
      trial.takeOver(now);
      trial.warmth = warmth;
      trial.goOn(t);
      if (trial.carries()) {
        return warmth;
      }
    }
    return NONE;
  }

  public int bestCell(int mote, int t) {
    if (!isMote(mote) || !isTime(t)) {
      return refuse(BAD);
    }
    // Each mote goes by itself, so a cell for this one changes no other one's vote.
    int most = NONE;
    int best = 0;
    for (int row = 0; row < now.side; row++) {
      for (int column = 0; column < now.side; column++) {
        int cell = 10 * row + column;
        int end = walked(mote, cell, t);
        int got = trial.isLit(end) ? now.weightOf[mote] : 0;
        if (got > most) {
          most = got;
          best = cell;
        }
      }
    }
    return best;
  }

  public int odds(int t, int what) {
    if (t < 0 || t > MOST_DRAUGHTS || what < 0 || what > 1) {
      return refuse(BAD);
    }
    draughts.reckon(now, t);
    return what == 0 ? draughts.carriedOfMillion() : draughts.thousandfoldMean();
  }

  // ---- told sessions

  public int judge(int s, int n) {
    int refusal = rowRefusal(s, isElementCount(n), n);
    return refusal != FINE ? refuse(refusal) : wrongAt(s, n);
  }

  public int behind(int s, int n, int what) {
    boolean asksMote = what >= 10 && isMote(what - 10);
    boolean mayAsk = what == 0 || what == 1 || asksMote;
    int refusal = sessionRefusal(s, n, mayAsk);
    if (refusal != FINE) {
      return refuse(refusal);
    }
    trial.takeOver(now);
    trial.goThrough(shelves[s].elements, n);
    if (asksMote) {
      return trial.cellOf[what - 10];
    }
    return what == 0 ? trial.litWeight() : bit(trial.carries());
  }

  public int done(int s, int n) {
    int refusal = sessionRefusal(s, n, true);
    if (refusal != FINE) {
      return refuse(refusal);
    }
    now.goThrough(shelves[s].elements, n);
    return now.litWeight();
  }

  // ---- in truth

  public int steps(int n) {
    if (n < 1 || n > MOST_STEPS) {
      return refuse(BAD);
    }
    now.goOn(n);
    return now.litWeight();
  }

  public int hours(int n) {
    if (n < 1 || n > MOST_HOURS) {
      return refuse(BAD);
    }
    int carried = 0;
    for (int i = 0; i < n; i++) {
      now.drawDoors();
      now.goOn(1);
      carried += bit(now.carries());
    }
    return carried;
  }

  public int seed(int v) {
    int was = now.seed;
    now.seed = v;
    return was;
  }

  public int image() {
    kept.takeOver(now);
    isKept = true;
    return 1;
  }

  public int back() {
    if (!isKept) {
      return refuse(STUCK);
    }
    now.takeOver(kept);
    for (int s = 0; s < SHELVES; s++) {
      if (shelves[s].held == Shelf.MOTE && !isMote(shelves[s].number)) {
        shelves[s].clear();
      }
    }
    return 1;
  }

  public int status(int what) {
    switch (what) {
      case 0:
        return now.count;
      case 1:
        return now.side;
      case 2:
        return now.doors;
      case 8:
        return now.weightInAll();
      case 9:
        return tape.size;
      case 10:
        return now.seed;
      case 11:
        return filledShelves();
      default:
        return what >= 3 && what <= 7 ? now.told(what - 3) : refused(what);
    }
  }

  // ---- what may be

  private static boolean isShelf(int s) {
    return s >= 0 && s < SHELVES;
  }

  private static boolean isElementCount(int n) {
    return n >= 0 && n <= MOST_ELEMENTS;
  }

  private static boolean isKind(int kind) {
    return kind >= 0 && kind <= LAST_KIND;
  }

  private static boolean isTime(int t) {
    return t >= 0 && t <= MOST_STEPS;
  }

  private boolean isMote(int mote) {
    return mote >= 0 && mote < now.count;
  }

  private boolean areTwoMotes(int mote, int other) {
    return isMote(mote) && isMote(other) && mote != other;
  }

  private static boolean isUnder(int own, int kind) {
    return kind == own || kind == MOTE || kind == HEAVY && own == LEAD
        || kind == GOLD && own == SPARK;
  }

  private static boolean isSetting(long v) {
    return v >= 0 && v / 10 < DOOR_SETS && v % 10 <= LAST_FAN;
  }

  private static int bit(boolean so) {
    return so ? 1 : 0;
  }

  private static long narrowed(int sort, long v) {
    switch (sort) {
      case 0:
        return (byte) v;
      case 1:
        return (short) v;
      case 2:
        return (int) v;
      case 3:
        return v;
      default:
        return v != 0 ? 1 : 0;
    }
  }

  // ---- refusals

  private int refuse(int why) {
    int i = BAD - why;
    if (i >= 0 && i < REFUSAL_SORTS) {
      refusals[i]++;
    }
    return why;
  }

  private int refused(int what) {
    int i = what - 12;
    return what >= 12 && i < REFUSAL_SORTS ? refusals[i] : NONE;
  }

  private int rowRefusal(int s, boolean othersMayBe, int leastSize) {
    if (!isShelf(s) || !othersMayBe) {
      return BAD;
    }
    Shelf shelf = shelves[s];
    if (shelf.held == Shelf.MOTE) {
      return OTHER;
    }
    if (shelf.held != Shelf.ROW) {
      return NOTHING;
    }
    return shelf.size < leastSize ? BAD : FINE;
  }

  private int sessionRefusal(int s, int n, boolean othersMayBe) {
    int refusal = rowRefusal(s, isElementCount(n) && othersMayBe, n);
    if (refusal != FINE) {
      return refusal;
    }
    return wrongAt(s, n) != NONE ? STUCK : FINE;
  }

  // ---- looking ahead; the trial hall stands for what is to come, so nothing is changed

  private void lookAhead(int t) {
    trial.takeOver(now);
    trial.goOn(t);
  }

  private void lookAheadBy(int doors, int fan, int t) {
    trial.takeOver(now);
    trial.doors = doors;
    trial.fan = fan;
    trial.goOn(t);
  }

  /** Where one mote comes to from a cell; the trial's hour is the one behind t steps then. */
  private int walked(int mote, int cell, int t) {
    trial.takeOver(now);
    int at = cell;
    for (int i = 0; i < t; i++) {
      at = trial.next(trial.kindOf[mote], at);
      trial.passHour();
    }
    return at;
  }

  private boolean goesSo(int kind, int cell, long[] told, int n) {
    trial.takeOver(now);
    int at = cell;
    for (int i = 0; i < n && i < told.length; i++) {
      at = trial.next(kind, at);
      trial.passHour();
      if (at != told[i]) {
        return false;
      }
    }
    return true;
  }

  private int firstCarried() {
    trial.takeOver(now);
    for (int t = 0; t <= MOST_STEPS; t++) {
      if (trial.carries()) {
        return t;
      }
      trial.goOn(1);
    }
    return NONE;
  }

  private int bestTime() {
    int most = NONE;
    int best = 0;
    trial.takeOver(now);
    for (int t = 0; t <= MOST_STEPS; t++) {
      int got = trial.litWeight();
      if (got > most) {
        most = got;
        best = t;
      }
      trial.goOn(1);
    }
    return best;
  }

  private int turned(int door) {
    return door >= 0 && door < DOORS ? now.doors ^ 1 << door : now.doors;
  }

  private int leastDoor(int fan, int t) {
    int least = MOST_VOTES;
    int best = 0;
    for (int door = 0; door <= DOORS; door++) {
      lookAheadBy(turned(door), fan, t);
      int got = trial.litWeight();
      if (door == 0 || got < least) {
        least = got;
        best = door;
      }
    }
    return best;
  }

  private int power(int mote) {
    countSetsWithout(mote);
    int all = now.weightInAll();
    int sets = 0;
    for (int w = 0; w < setsByWeight.length; w++) {
      if (2 * w <= all && 2 * (w + now.weightOf[mote]) > all) {
        sets += setsByWeight[w];
      }
    }
    return sets;
  }

  private void countSetsWithout(int mote) {
    Arrays.fill(setsByWeight, 0);
    setsByWeight[0] = 1;
    for (int m = 0; m < now.count; m++) {
      int weight = now.weightOf[m];
      if (m == mote || weight < 0) {
        continue;
      }
      // From the heaviest down, so that no set counts the same mote twice.
      for (int w = setsByWeight.length - 1; w >= weight; w--) {
        setsByWeight[w] += setsByWeight[w - weight];
      }
    }
  }

  private int wrongAt(int s, int n) {
    long[] told = shelves[s].elements;
    for (int i = 0; i < n && i < told.length; i++) {
      if (!isSetting(told[i])) {
        return i;
      }
    }
    return NONE;
  }

  private int filledShelves() {
    int filled = 0;
    for (int s = 0; s < SHELVES; s++) {
      filled += bit(shelves[s].held != Shelf.EMPTY);
    }
    return filled;
  }

  /** All that an image keeps: the motes, and what moves and lights them. */
  private static final class Hall {
    private static final int DOOR_UP = 1;
    private static final int DOOR_RIGHT = 2;
    private static final int DOOR_DOWN = 4;
    private static final int DOOR_LEFT = 8;
    private static final int FAN_UP = 1;
    private static final int FAN_RIGHT = 2;
    private static final int FAN_DOWN = 3;
    private static final int FAN_LEFT = 4;

    int side = 6;
    int count;
    final int[] kindOf = new int[MOST_MOTES];
    final int[] weightOf = new int[MOST_MOTES];
    final int[] cellOf = new int[MOST_MOTES];
    int doors;
    int fan;
    int warmth;
    int hour;
    int beam;
    int chance = 3;
    int seed = 1;

    void takeOver(Hall other) {
      side = other.side;
      System.arraycopy(other.kindOf, 0, kindOf, 0, MOST_MOTES);
      System.arraycopy(other.weightOf, 0, weightOf, 0, MOST_MOTES);
      takePlaces(other);
      count = other.count;
      doors = other.doors;
      fan = other.fan;
      warmth = other.warmth;
      beam = other.beam;
      chance = other.chance;
      seed = other.seed;
    }

    void takePlaces(Hall other) {
      System.arraycopy(other.cellOf, 0, cellOf, 0, MOST_MOTES);
      hour = other.hour;
    }

    boolean maySide(int n) {
      return n >= LEAST_SIDE && n <= MOST_SIDE && n >= side;
    }

    boolean isCell(int cell) {
      return cell >= 0 && cell / 10 < side && cell % 10 < side;
    }

    boolean hasRoom() {
      return count < MOST_MOTES;
    }

    void add(int kind, int weight, int cell) {
      if (!hasRoom()) {
        return;
      }
      kindOf[count] = kind;
      weightOf[count] = weight;
      cellOf[count] = cell;
      count++;
    }

    void setDoor(int door, boolean open) {
      doors = open ? doors | 1 << door : doors & ~(1 << door);
    }

    static boolean mayTell(int what, int v) {
      return v >= 0 && v <= mostTold(what);
    }

    static int mostTold(int what) {
      switch (what) {
        case 0:
          return LAST_FAN;
        case 1:
          return MOST_WARMTH;
        case 2:
          return MOST_HOUR;
        case 3:
          return MOST_BEAM;
        case 4:
          return WAYS;
        default:
          return NONE;
      }
    }

    int told(int what) {
      switch (what) {
        case 0:
          return fan;
        case 1:
          return warmth;
        case 2:
          return hour;
        case 3:
          return beam;
        case 4:
          return chance;
        default:
          return NONE;
      }
    }

    void becomes(int what, int v) {
      switch (what) {
        case 0:
          fan = v;
          break;
        case 1:
          warmth = v;
          break;
        case 2:
          hour = v;
          break;
        case 3:
          beam = v;
          break;
        case 4:
          chance = v;
          break;
        default:
          break;
      }
    }

    // ---- a step

    void goOn(int t) {
      for (int i = 0; i < t; i++) {
        for (int m = 0; m < count; m++) {
          cellOf[m] = next(kindOf[m], cellOf[m]);
        }
        passHour();
      }
    }

    void passHour() {
      hour = Math.min(hour + 1, MOST_HOUR);
    }

    /** Elements must have been judged: each is a setting. */
    void goThrough(long[] session, int n) {
      for (int i = 0; i < n && i < session.length; i++) {
        doors = (int) (session[i] / 10);
        fan = (int) (session[i] % 10);
        goOn(1);
      }
    }

    void drawDoors() {
      for (int door = 0; door < DOORS; door++) {
        setDoor(door, draw() < chance);
      }
    }

    private int draw() {
      seed = seed * 1103515245 + 12345;
      return (seed >>> 16) % WAYS;
    }

    int next(int kind, int cell) {
      switch (kind) {
        case HEAVY:
          return nextOfHeavy(cell);
        case LEAD:
          return lowered(nextOfHeavy(cell));
        case GOLD:
          return isLit(cell) ? cell : nextOfMote(cell);
        case SPARK:
          return isLit(cell) ? cell : towardsBeam(nextOfMote(cell));
        case LAZY:
          return pushedByDoors(cell);
        default:
          return nextOfMote(cell);
      }
    }

    private int nextOfMote(int cell) {
      int pushed = pushedByFan(pushedByDoors(cell));
      boolean rises = warmth >= WARM && (hour & 1) == 0;
      return rises && pushed / 10 > 0 ? pushed - 10 : pushed;
    }

    private int nextOfHeavy(int cell) {
      return (hour & 1) == 1 ? pushedByFan(pushedByDoors(cell)) : cell;
    }

    private int lowered(int cell) {
      return cell / 10 < side - 1 ? cell + 10 : cell;
    }

    private int towardsBeam(int cell) {
      return cell + Integer.compare(beamColumn(cell / 10), cell % 10);
    }

    private int pushedByDoors(int cell) {
      int row = cell / 10;
      int column = cell % 10;
      if ((doors & DOOR_UP) != 0 && row < side - 1) {
        row++;
      }
      if ((doors & DOOR_RIGHT) != 0 && column > 0) {
        column--;
      }
      if ((doors & DOOR_DOWN) != 0 && row > 0) {
        row--;
      }
      if ((doors & DOOR_LEFT) != 0 && column < side - 1) {
        column++;
      }
      return 10 * row + column;
    }

    private int pushedByFan(int cell) {
      int row = cell / 10;
      int column = cell % 10;
      switch (fan) {
        case FAN_UP:
          return row > 0 ? cell - 10 : cell;
        case FAN_RIGHT:
          return column < side - 1 ? cell + 1 : cell;
        case FAN_DOWN:
          return row < side - 1 ? cell + 10 : cell;
        case FAN_LEFT:
          return column > 0 ? cell - 1 : cell;
        default:
          return cell;
      }
    }

    // ---- the beam and the votes

    private int beamColumn(int row) {
      return side > 0 ? (hour + beam + row) % side : 0;
    }

    boolean isLit(int cell) {
      return cell % 10 == beamColumn(cell / 10);
    }

    int litWeight() {
      int sum = 0;
      for (int m = 0; m < count; m++) {
        sum += isLit(cellOf[m]) ? weightOf[m] : 0;
      }
      return sum;
    }

    int litCount() {
      int sum = 0;
      for (int m = 0; m < count; m++) {
        sum += isLit(cellOf[m]) ? 1 : 0;
      }
      return sum;
    }

    int weightInAll() {
      int sum = 0;
      for (int m = 0; m < count; m++) {
        sum += weightOf[m];
      }
      return sum;
    }

    boolean carries() {
      return 2 * litWeight() > weightInAll();
    }

    // ---- where the motes stand

    int countIn(int cell) {
      int sum = 0;
      for (int m = 0; m < count; m++) {
        sum += cellOf[m] == cell ? 1 : 0;
      }
      return sum;
    }

    boolean isAtWall(int cell) {
      int row = cell / 10;
      int column = cell % 10;
      return row == 0 || row == side - 1 || column == 0 || column == side - 1;
    }

    boolean standsAs(Hall other) {
      for (int m = 0; m < count; m++) {
        if (cellOf[m] != other.cellOf[m]) {
          return false;
        }
      }
      return true;
    }

    boolean standsAsTold(long[] told) {
      for (int m = 0; m < count && m < told.length; m++) {
        if (cellOf[m] != told[m]) {
          return false;
        }
      }
      return true;
    }

    int middle(boolean ofRows) {
      int sum = 0;
      for (int m = 0; m < count; m++) {
        sum += ofRows ? cellOf[m] / 10 : cellOf[m] % 10;
      }
      return count > 0 ? 1000 * sum / count : 0;
    }

    int spread() {
      int most = 0;
      for (int m = 0; m < count; m++) {
        for (int o = 0; o < m; o++) {
          int rows = Math.abs(cellOf[m] / 10 - cellOf[o] / 10);
          int columns = Math.abs(cellOf[m] % 10 - cellOf[o] % 10);
          most = Math.max(most, rows + columns);
        }
      }
      return most;
    }
  }

  /** Goes through all ways in which the doors may stand step by step, each with its number of ways. */
  private static final class Draughts {
    private final Hall[] deep = new Hall[MOST_DRAUGHTS + 1];
    private long all;
    private long carried;
    private long voted;

    Draughts() {
      for (int i = 0; i < deep.length; i++) {
        deep[i] = new Hall();
      }
    }

    void reckon(Hall from, int t) {
      all = 0;
      carried = 0;
      voted = 0;
      for (int i = 0; i < deep.length; i++) {
        deep[i].takeOver(from);
      }
      branch(this, 0, t, 1);
    }

    private static void branch(Draughts d, int depth, int t, long ways) {
      if (depth < 0 || depth >= d.deep.length) {
        return;
      }
      Hall here = d.deep[depth];
      if (depth >= t || depth + 1 >= d.deep.length) {
        d.tally(here, ways);
        return;
      }
      Hall then = d.deep[depth + 1];
      for (int doors = 0; doors < DOOR_SETS; doors++) {
        long more = waysOf(doors, here.chance);
        if (more > 0) {
          then.takePlaces(here);
          then.doors = doors;
          then.goOn(1);
          branch(d, depth + 1, t, ways * more);
        }
      }
    }

    private void tally(Hall end, long ways) {
      int got = end.litWeight();
      all += ways;
      voted += ways * got;
      carried += 2 * got > end.weightInAll() ? ways : 0;
    }

    private static long waysOf(int doors, int chance) {
      long ways = 1;
      for (int door = 0; door < DOORS; door++) {
        ways *= (doors >> door & 1) == 1 ? chance : WAYS - chance;
      }
      return ways;
    }

    /** All are 12 to the power of 12 at most, a million times which is still a long. */
    int carriedOfMillion() {
      return all > 0 ? (int) (1000000 * carried / all) : 0;
    }

    int thousandfoldMean() {
      return all > 0 ? (int) (1000 * voted / all) : 0;
    }
  }

  /** A shelf's row is made once and used for every row that it comes to hold. */
  private static final class Shelf {
    static final int EMPTY = 0;
    static final int ROW = 1;
    static final int MOTE = 2;

    int held = EMPTY;
    int sort;
    int size;
    int number;
    final long[] elements = new long[MOST_ELEMENTS];

    void takeRow(int rowSort, int n) {
      held = ROW;
      sort = rowSort;
      size = n;
      Arrays.fill(elements, 0L);
    }

    void takeMote(int mote) {
      held = MOTE;
      number = mote;
    }

    void clear() {
      held = EMPTY;
    }

    boolean hasPlace(int i) {
      return i >= 0 && i < size && i < elements.length;
    }

    boolean hasPlaces(int from, int n) {
      return from >= 0 && n >= 0 && n <= size && from <= size - n;
    }
  }

  /** The tape, and the reader of halls from it. */
  private static final class Tape {
    private static final int END = 0;
    private static final int WORD = 1;
    private static final int NUMBER = 2;
    private static final int SIGN = 3;
    private static final int NO_TOKEN = 4;
    private static final int MOST_DIGITS = 3;

    private final int[] bytes = new int[MOST_TAPE];
    int size;
    /** Where the token that was read last begins; the tape's size at its end. */
    int start;
    private int at;
    private int token;

    void add(int letter) {
      if (size < bytes.length) {
        bytes[size] = letter;
        size++;
      }
    }

    /** How many statements came to the hall; NONE: the token at start can't stand there. */
    int read(Hall onto) {
      at = 0;
      for (int statements = 1; statements <= MOST_TAPE; statements++) {
        readToken();
        if (token != WORD || !readStatement(onto)) {
          return NONE;
        }
        readToken();
        if (token == END) {
          return statements;
        }
        if (token != SIGN) {
          return NONE;
        }
      }
      return NONE;
    }

    private boolean readStatement(Hall onto) {
      if (isWord("side")) {
        return readSide(onto);
      }
      if (isWord("mote")) {
        return onto.hasRoom() && readMote(onto);
      }
      if (isWord("open")) {
        return readDoor(onto, true);
      }
      if (isWord("shut")) {
        return readDoor(onto, false);
      }
      int what = toldWord();
      if (what == NONE || !readNumber(Hall.mostTold(what))) {
        return false;
      }
      onto.becomes(what, tokenValue());
      return true;
    }

    private int toldWord() {
      if (isWord("fan")) {
        return 0;
      }
      if (isWord("warm")) {
        return 1;
      }
      if (isWord("hour")) {
        return 2;
      }
      if (isWord("beam")) {
        return 3;
      }
      return isWord("chance") ? 4 : NONE;
    }

    private boolean readSide(Hall onto) {
      if (!readNumber(MOST_SIDE) || !onto.maySide(tokenValue())) {
        return false;
      }
      onto.side = tokenValue();
      return true;
    }

    private boolean readMote(Hall onto) {
      if (!readNumber(LAST_KIND)) {
        return false;
      }
      int kind = tokenValue();
      if (!readNumber(MOST_WEIGHT)) {
        return false;
      }
      int weight = tokenValue();
      if (!readNumber(MOST_HOUR) || !onto.isCell(tokenValue())) {
        return false;
      }
      onto.add(kind, weight, tokenValue());
      return true;
    }

    private boolean readDoor(Hall onto, boolean open) {
      if (!readNumber(DOORS - 1)) {
        return false;
      }
      onto.setDoor(tokenValue(), open);
      return true;
    }

    private boolean readNumber(int most) {
      readToken();
      return token == NUMBER && at - start <= MOST_DIGITS && tokenValue() <= most;
    }

    private int tokenValue() {
      int value = 0;
      // A number of more digits is refused, so more need not be looked at.
      for (int i = start; i < at && i < start + MOST_DIGITS && i < bytes.length; i++) {
        value = 10 * value + bytes[i] - '0';
      }
      return value;
    }

    private boolean isWord(String word) {
      if (at - start != word.length()) {
        return false;
      }
      for (int i = 0; i < word.length() && start + i < bytes.length; i++) {
        if (bytes[start + i] != word.charAt(i)) {
          return false;
        }
      }
      return true;
    }

    private void readToken() {
      while (at < size && bytes[at] == ' ') {
        at++;
      }
      start = at;
      token = at < size ? sortOf(bytes[at]) : END;
      if (token == END) {
        return;
      }
      at++;
      if (token == WORD || token == NUMBER) {
        while (at < size && sortOf(bytes[at]) == token) {
          at++;
        }
      }
    }

    private static int sortOf(int letter) {
      if (letter >= 'a' && letter <= 'z') {
        return WORD;
      }
      if (letter >= '0' && letter <= '9') {
        return NUMBER;
      }
      return letter == ';' ? SIGN : NO_TOKEN;
    }
  }
}
