import java.lang.reflect.Array;
import java.math.BigInteger;
import java.util.ArrayList;
import java.util.HashSet;
import java.util.List;
import java.util.Set;
import java.util.function.IntBinaryOperator;
import java.util.regex.Matcher;
import java.util.regex.Pattern;

/**
 * The document told a second time, as literally and wastefully as can be, with the Java library:
 * real arrays in the shelves, sets by enumeration, odds by all sequences in BigInteger, tokens by
 * a pattern. It shares no line with the class, so that a slip in one shows as a difference.
 */
public final class Model {
  /** One hall, never changed: each step makes a new one. */
  record Room(int side, List<int[]> motes, int doors, int fan, int warmth, int hour, int beam,
      int chance, int seed) {
    Room motes(List<int[]> to) {
      return new Room(side, to, doors, fan, warmth, hour, beam, chance, seed);
    }

    Room side(int to) {
      return new Room(to, motes, doors, fan, warmth, hour, beam, chance, seed);
    }

    Room set(int newDoors, int newFan) {
      return new Room(side, motes, newDoors, newFan, warmth, hour, beam, chance, seed);
    }

    Room seed(int to) {
      return new Room(side, motes, doors, fan, warmth, hour, beam, chance, to);
    }

    Room tell(int what, int v) {
      return new Room(side, motes, doors, what == 0 ? v : fan, what == 1 ? v : warmth,
          what == 2 ? v : hour, what == 3 ? v : beam, what == 4 ? v : chance, seed);
    }

    Room mote(int m, int what, int v) {
      List<int[]> to = new ArrayList<>();
      for (int i = 0; i < motes.size(); i++) {
        int[] mote = motes.get(i).clone();
        if (i == m) {
          mote[what] = v;
        }
        to.add(mote);
      }
      return motes(to);
    }

    Room with(int kind, int a, int cell) {
      List<int[]> to = new ArrayList<>(motes);
      to.add(new int[] {kind, a, cell});
      return motes(to);
    }

    boolean cell(int c) {
      return c >= 0 && c <= 99 && c / 10 < side && c % 10 < side;
    }

    int move(int c, char way) {
      int row = c / 10 + (way == 'u' ? -1 : way == 'd' ? 1 : 0);
      int column = c % 10 + (way == 'l' ? -1 : way == 'r' ? 1 : 0);
      boolean in = row >= 0 && row < side && column >= 0 && column < side;
      return in ? row * 10 + column : c;
    }

    int moves(int c, String ways) {
      int at = c;
      for (char way : ways.toCharArray()) {
        at = move(at, way);
      }
      return at;
    }

    String doorPushes() {
      StringBuilder ways = new StringBuilder();
      for (int d = 0; d < 4; d++) {
        if ((doors & 1 << d) != 0) {
          ways.append("dlur".charAt(d));
        }
      }
      return ways.toString();
    }

    String pushes() {
      return fan == 0 ? doorPushes() : doorPushes() + "urdl".charAt(fan - 1);
    }

    boolean lit(int c, int atHour) {
      return Math.floorMod(atHour + beam + c / 10, side) == c % 10;
    }

    int next(int kind, int c) {
      boolean even = hour % 2 == 0;
      String asMote = pushes() + (warmth >= 5 && even ? "u" : "");
      String asHeavy = even ? "" : pushes();
      switch (kind) {
        case 0: return moves(c, asMote);
        case 1: return moves(c, asHeavy);
        case 2: return lit(c, hour) ? c : moves(c, asMote);
        case 3: return moves(c, asHeavy + "d");
        case 4: return lit(c, hour) ? c : drawn(moves(c, asMote));
        default: return moves(c, doorPushes());
      }
    }

    int drawn(int c) {
      for (int column = 0; column < side; column++) {
        if (lit(c / 10 * 10 + column, hour)) {
          return column > c % 10 ? move(c, 'r') : column < c % 10 ? move(c, 'l') : c;
        }
      }
      throw new IllegalStateException("no beam in this row");
    }

    Room step() {
      List<int[]> to = new ArrayList<>();
      for (int[] mote : motes) {
        to.add(new int[] {mote[0], mote[1], next(mote[0], mote[2])});
      }
      return motes(to).tell(2, hour == 999 ? 999 : hour + 1);
    }

    Room ahead(int t) {
      return t == 0 ? this : step().ahead(t - 1);
    }

    int all() {
      return motes.stream().mapToInt(m -> m[1]).sum();
    }

    int votes() {
      return motes.stream().filter(m -> lit(m[2], hour)).mapToInt(m -> m[1]).sum();
    }

    boolean carries() {
      return 2 * votes() > all();
    }

    int at(int m) {
      return motes.get(m)[2];
    }
  }

  private Room now = new Room(6, new ArrayList<>(), 0, 0, 0, 0, 0, 3, 1);
  private Room kept;
  private final Object[] shelf = new Object[8];
  private final StringBuilder tape = new StringBuilder();
  private final int[] refused = new int[7];

  private int no(int why) {
    refused[-why]++;
    return why;
  }

  private static boolean in(long v, long least, long most) {
    return v >= least && v <= most;
  }

  private boolean isMote(int m) {
    return in(m, 0, now.motes.size() - 1);
  }

  private static int bit(boolean b) {
    return b ? 1 : 0;
  }

  private static int sortOf(Object array) {
    return List.of(byte[].class, short[].class, int[].class, long[].class, boolean[].class)
        .indexOf(array.getClass());
  }

  private static long get(Object array, int i) {
    if (array instanceof boolean[] b) {
      return b[i] ? 1 : 0;
    }
    return Array.getLong(array, i);
  }

  public int row(int s, int sort, int n) {
    if (!in(s, 0, 7) || !in(sort, 0, 4) || !in(n, 0, 40)) {
      return no(-2);
    }
    Class<?>[] sorts = {byte.class, short.class, int.class, long.class, boolean.class};
    shelf[s] = Array.newInstance(sorts[sort], n);
    return 1;
  }

  public int set(int s, int i, long v) {
    if (!in(s, 0, 7)) {
      return no(-2);
    }
    if (shelf[s] instanceof Integer) {
      return no(-3);
    }
    if (shelf[s] == null) {
      return no(-4);
    }
    if (!in(i, 0, Array.getLength(shelf[s]) - 1)) {
      return no(-2);
    }
    if (shelf[s] instanceof byte[] a) {
      a[i] = (byte) v;
    } else if (shelf[s] instanceof short[] a) {
      a[i] = (short) v;
    } else if (shelf[s] instanceof int[] a) {
      a[i] = (int) v;
    } else if (shelf[s] instanceof long[] a) {
      a[i] = v;
    } else if (shelf[s] instanceof boolean[] a) {
      a[i] = v != 0;
    }
    return 1;
  }

  public int copy(int p, int q, int i, int j, int n) {
    if (!in(p, 0, 7) || !in(q, 0, 7)) {
      return no(-2);
    }
    Object from = shelf[p];
    Object to = shelf[q];
    if (from instanceof Integer || to instanceof Integer) {
      return no(-3);
    }
    if (from != null && to != null && from.getClass() != to.getClass()) {
      return no(-3);
    }
    if (from == null || to == null) {
      return no(-4);
    }
    try {
      System.arraycopy(from, i, to, j, n);
    } catch (IndexOutOfBoundsException bad) {
      return no(-2);
    }
    return n;
  }

  public long element(int s, int i) {
    if (!in(s, 0, 7) || shelf[s] == null || shelf[s] instanceof Integer
        || !in(i, 0, Array.getLength(shelf[s]) - 1)) {
      return 0;
    }
    return get(shelf[s], i);
  }

  public int holds(int s) {
    if (!in(s, 0, 7) || shelf[s] == null) {
      return -1;
    }
    return shelf[s] instanceof Integer m ? 10 + m : sortOf(shelf[s]);
  }

  public int show(int s, int mote) {
    if (!in(s, 0, 7) || mote != -1 && !isMote(mote)) {
      return no(-2);
    }
    shelf[s] = mote == -1 ? null : Integer.valueOf(mote);
    return 1;
  }

  public int says(int s, int kind) {
    if (!in(s, 0, 7) || !in(kind, 0, 5)) {
      return no(-2);
    }
    if (shelf[s] == null) {
      return no(-4);
    }
    if (!(shelf[s] instanceof Integer m)) {
      return no(-3);
    }
    int[] above = {-1, 0, 0, 1, 2, 0};
    int own = now.motes.get(m)[0];
    int k = own;
    while (k != -1 && k != kind) {
      k = above[k];
    }
    if (k == -1) {
      return no(-3);
    }
    return kind == 0 ? now.motes.get(m)[1] : now.step().at(m);
  }

  public int side(int n) {
    if (!in(n, 3, 7) || n < now.side) {
      return no(-2);
    }
    int was = now.side;
    now = now.side(n);
    return was;
  }

  public int mote(int kind, int a, int cell) {
    if (!in(kind, 0, 5) || !in(a, 0, 9) || !now.cell(cell)) {
      return no(-2);
    }
    if (now.motes.size() == 10) {
      return no(-6);
    }
    now = now.with(kind, a, cell);
    return now.motes.size() - 1;
  }

  public int put(int mote, int cell) {
    if (!isMote(mote) || !now.cell(cell)) {
      return no(-2);
    }
    int was = now.at(mote);
    now = now.mote(mote, 2, cell);
    return was;
  }

  public int door(int door, boolean open) {
    if (!in(door, 0, 3)) {
      return no(-2);
    }
    int was = bit((now.doors & 1 << door) != 0);
    now = now.set(now.doors & ~(1 << door) | bit(open) << door, now.fan);
    return was;
  }

  private static final int[] MOST = {4, 9, 999, 6, 12};

  public int tell(int what, int v) {
    if (!in(what, 0, 4) || !in(v, 0, MOST[what])) {
      return no(-2);
    }
    int[] was = {now.fan, now.warmth, now.hour, now.beam, now.chance};
    now = now.tell(what, v);
    return was[what];
  }

  public int feed(int letter) {
    if (!in(letter, 0, 255)) {
      return no(-2);
    }
    if (tape.length() == 250) {
      return no(-6);
    }
    tape.append((char) letter);
    return tape.length();
  }

  public int wipe() {
    int was = tape.length();
    tape.setLength(0);
    return was;
  }

  /** Tokens as texts, each with its place; the end is an empty token. */
  public int hall() {
    List<String> texts = new ArrayList<>();
    List<Integer> places = new ArrayList<>();
    Matcher m = Pattern.compile("[a-z]+|[0-9]+|[^ ]", Pattern.DOTALL).matcher(tape);
    while (m.find()) {
      texts.add(m.group());
      places.add(m.start());
    }
    texts.add("");
    places.add(tape.length());
    tape.setLength(0);
    Room to = now;
    int i = 0;
    int statements = 0;
    while (true) {
      String word = texts.get(i);
      if (!List.of("side", "mote", "open", "shut", "fan", "warm", "hour", "beam", "chance")
          .contains(word) || word.equals("mote") && to.motes.size() == 10) {
        return fault(places.get(i));
      }
      int wanted = word.equals("mote") ? 3 : 1;
      int[] given = new int[3];
      for (int k = 0; k < wanted; k++) {
        i++;
        String number = texts.get(i);
        if (!number.matches("[0-9]{1,3}")) {
          return fault(places.get(i));
        }
        given[k] = Integer.parseInt(number);
        if (!may(to, word, k, given[k])) {
          return fault(places.get(i));
        }
      }
      to = come(to, word, given);
      statements++;
      i++;
      if (texts.get(i).isEmpty()) {
        now = to;
        return statements;
      }
      if (!texts.get(i).equals(";")) {
        return fault(places.get(i));
      }
      i++;
    }
  }

  private int fault(int place) {
    no(-2);
    return -20 - place;
  }

  private static final List<String> TOLD = List.of("fan", "warm", "hour", "beam", "chance");

  private static boolean may(Room to, String word, int k, int v) {
    switch (word) {
      case "side": return in(v, 3, 7) && v >= to.side;
      case "mote": return k == 0 ? v <= 5 : k == 1 ? v <= 9 : to.cell(v);
      case "open": case "shut": return v <= 3;
      default: return v <= MOST[TOLD.indexOf(word)];
    }
  }

  private static Room come(Room to, String word, int[] given) {
    switch (word) {
      case "side": return to.side(given[0]);
      case "mote": return to.with(given[0], given[1], given[2]);
      case "open": return to.set(to.doors | 1 << given[0], to.fan);
      case "shut": return to.set(to.doors & ~(1 << given[0]), to.fan);
      default: return to.tell(TOLD.indexOf(word), given[0]);
    }
  }

  public int moteOf(int mote, int what) {
    if (!isMote(mote) || !in(what, 0, 4)) {
      return no(-2);
    }
    if (what < 3) {
      return now.motes.get(mote)[what];
    }
    return what == 3 ? bit(now.lit(now.at(mote), now.hour)) : power(mote);
  }

  private int power(int mote) {
    int n = now.motes.size();
    int found = 0;
    for (int set = 0; set < 1 << n; set++) {
      if ((set & 1 << mote) != 0) {
        continue;
      }
      int weighs = 0;
      for (int m = 0; m < n; m++) {
        weighs += (set & 1 << m) != 0 ? now.motes.get(m)[1] : 0;
      }
      double half = now.all() / 2.0;
      found += bit(weighs <= half && weighs + now.motes.get(mote)[1] > half);
    }
    return found;
  }

  public int lit(int cell, int hour) {
    if (!now.cell(cell) || !in(hour, 0, 999)) {
      return no(-2);
    }
    return bit(now.lit(cell, hour));
  }

  private static boolean time(int t) {
    return in(t, 0, 24);
  }

  public int where(int mote, int t) {
    return isMote(mote) && time(t) ? now.ahead(t).at(mote) : no(-2);
  }

  public int votes(int t, int what) {
    if (!time(t) || !in(what, 0, 2)) {
      return no(-2);
    }
    Room then = now.ahead(t);
    if (what == 2) {
      return (int) then.motes.stream().filter(m -> then.lit(m[2], then.hour)).count();
    }
    return what == 0 ? then.votes() : bit(then.carries());
  }

  /** Of candidates 0 to last the least that has the most of something. */
  private static int best(int last, IntBinaryOperator better, int[] has) {
    int best = 0;
    for (int i = 1; i <= last; i++) {
      if (better.applyAsInt(has[i], has[best]) > 0) {
        best = i;
      }
    }
    return best;
  }

  private static int most(int[] has) {
    return best(has.length - 1, Integer::compare, has);
  }

  private static int least(int[] has) {
    return best(has.length - 1, (a, b) -> Integer.compare(b, a), has);
  }

  public int when(int what) {
    if (!in(what, 0, 2)) {
      return no(-2);
    }
    int[] has = new int[25];
    int first = -1;
    for (int t = 24; t >= 0; t--) {
      has[t] = now.ahead(t).votes();
      first = now.ahead(t).carries() ? t : first;
    }
    return what == 0 ? first : what == 1 ? most(has) : has[most(has)];
  }

  private List<Integer> settings() {
    List<Integer> all = new ArrayList<>();
    for (int v = 0; v <= 154; v++) {
      if (v % 10 <= 4) {
        all.add(v);
      }
    }
    return all;
  }

  private Room by(int setting) {
    return now.set(setting / 10, setting % 10);
  }

  public int setting(int t, int what) {
    if (!time(t) || !in(what, 0, 1)) {
      return no(-2);
    }
    for (int differences = 0; differences <= 5; differences++) {
      for (int v : settings()) {
        int d = bit(v % 10 != now.fan);
        for (int door = 0; door < 4; door++) {
          d += bit((v / 10 >> door & 1) != (now.doors >> door & 1));
        }
        if (d == differences && by(v).ahead(t).carries()) {
          return what == 0 ? d : v;
        }
      }
    }
    return -1;
  }

  public int many(int t) {
    if (!time(t)) {
      return no(-2);
    }
    return (int) settings().stream().filter(v -> by(v).ahead(t).carries()).count();
  }

  private int rowProblem(int s, boolean fine, int n) {
    if (!in(s, 0, 7) || !fine) {
      return -2;
    }
    if (shelf[s] instanceof Integer) {
      return -3;
    }
    if (shelf[s] == null) {
      return -4;
    }
    return Array.getLength(shelf[s]) < n ? -2 : 0;
  }

  public int which(int s, int t, int what) {
    int problem = rowProblem(s, time(t) && in(what, 0, 1), now.motes.size());
    if (problem != 0) {
      return no(problem);
    }
    List<Integer> found = new ArrayList<>();
    for (int v : settings()) {
      Room then = by(v).ahead(t);
      boolean so = true;
      for (int m = 0; m < now.motes.size(); m++) {
        so &= then.at(m) == get(shelf[s], m);
      }
      if (so) {
        found.add(v);
      }
    }
    return what == 0 ? found.size() : found.isEmpty() ? -1 : found.get(0);
  }

  public int kinds(int s, int n, int mote) {
    int problem = rowProblem(s, in(n, 0, 40) && isMote(mote), n);
    if (problem != 0) {
      return no(problem);
    }
    int bits = 0;
    for (int kind = 0; kind < 6; kind++) {
      Room then = now.mote(mote, 0, kind);
      boolean so = true;
      for (int i = 0; i < n; i++) {
        then = then.step();
        so &= then.at(mote) == get(shelf[s], i);
      }
      bits += so ? 1 << kind : 0;
    }
    return bits;
  }

  public int centre(int t, int what) {
    if (!time(t) || !in(what, 0, 2)) {
      return no(-2);
    }
    Room then = now.ahead(t);
    if (what == 2) {
      int most = 0;
      for (int[] a : then.motes) {
        for (int[] b : then.motes) {
          most = Math.max(most,
              Math.abs(a[2] / 10 - b[2] / 10) + Math.abs(a[2] % 10 - b[2] % 10));
        }
      }
      return most;
    }
    if (then.motes.isEmpty()) {
      return no(-5);
    }
    int sum = then.motes.stream().mapToInt(m -> what == 0 ? m[2] / 10 : m[2] % 10).sum();
    return sum * 1000 / then.motes.size();
  }

  private int[] byDoor(int fan, int t) {
    int[] has = new int[5];
    for (int d = 0; d < 5; d++) {
      has[d] = now.set(d == 4 ? now.doors : now.doors ^ 1 << d, fan).ahead(t).votes();
    }
    return has;
  }

  public int whips(int t, int what) {
    if (!time(t) || !in(what, 0, 1)) {
      return no(-2);
    }
    int[] sure = new int[5];
    for (int fan = 0; fan < 5; fan++) {
      int[] has = byDoor(fan, t);
      sure[fan] = has[least(has)];
    }
    return what == 0 ? sure[most(sure)] : most(sure);
  }

  public int answer(int t, int fan) {
    return time(t) && in(fan, 0, 4) ? least(byDoor(fan, t)) : no(-2);
  }

  public int doorFor(int t) {
    return time(t) ? most(byDoor(now.fan, t)) : no(-2);
  }

  public int odds(int t, int what) {
    if (!in(t, 0, 3) || !in(what, 0, 1)) {
      return no(-2);
    }
    BigInteger sum = BigInteger.ZERO;
    for (int sequence = 0; sequence < 1 << 4 * t; sequence++) {
      Room then = now;
      BigInteger ways = BigInteger.ONE;
      for (int i = 0; i < t; i++) {
        int doors = sequence >> 4 * i & 15;
        then = then.set(doors, then.fan).step();
        int open = Integer.bitCount(doors);
        ways = ways.multiply(BigInteger.valueOf(now.chance).pow(open))
            .multiply(BigInteger.valueOf(12 - now.chance).pow(4 - open));
      }
      int counts = what == 0 ? bit(then.carries()) : then.votes();
      sum = sum.add(ways.multiply(BigInteger.valueOf(counts)));
    }
    return sum.multiply(BigInteger.valueOf(what == 0 ? 1000000 : 1000))
        .divide(BigInteger.valueOf(12).pow(4 * t)).intValueExact();
  }

  public int first(int what) {
    if (!in(what, 0, 1)) {
      return no(-2);
    }
    if (now.motes.isEmpty()) {
      return no(-5);
    }
    int[] has = new int[now.motes.size()];
    for (int m = 0; m < has.length; m++) {
      has[m] = what == 0 ? power(m) : now.motes.get(m)[1];
    }
    return most(has);
  }

  public int crowd(int cell, int t) {
    if (!now.cell(cell) || !time(t)) {
      return no(-2);
    }
    return (int) now.ahead(t).motes.stream().filter(m -> m[2] == cell).count();
  }

  public int thick(int t) {
    if (!time(t)) {
      return no(-2);
    }
    int[] has = new int[100];
    now.ahead(t).motes.forEach(m -> has[m[2]]++);
    return most(has);
  }

  public int arrives(int mote, int cell) {
    if (!isMote(mote) || !now.cell(cell)) {
      return no(-2);
    }
    for (int t = 0; t <= 24; t++) {
      if (now.ahead(t).at(mote) == cell) {
        return t;
      }
    }
    return -1;
  }

  private boolean litBehind(int mote, int t) {
    Room then = now.ahead(t);
    return then.lit(then.at(mote), then.hour);
  }

  public int lights(int mote) {
    if (!isMote(mote)) {
      return no(-2);
    }
    for (int t = 0; t <= 24; t++) {
      if (litBehind(mote, t)) {
        return t;
      }
    }
    return -1;
  }

  public int meet(int mote, int other) {
    if (!isMote(mote) || !isMote(other) || mote == other) {
      return no(-2);
    }
    for (int t = 0; t <= 24; t++) {
      if (now.ahead(t).at(mote) == now.ahead(t).at(other)) {
        return t;
      }
    }
    return -1;
  }

  public int together(int mote, int other) {
    if (!isMote(mote) || !isMote(other) || mote == other) {
      return no(-2);
    }
    int times = 0;
    for (int t = 0; t <= 24; t++) {
      times += bit(litBehind(mote, t) && litBehind(other, t));
    }
    return times;
  }

  public int beamFor(int t) {
    if (!time(t)) {
      return no(-2);
    }
    int[] has = new int[7];
    for (int b = 0; b < 7; b++) {
      has[b] = now.tell(3, b).ahead(t).votes();
    }
    return most(has);
  }

  public int warmthFor(int t) {
    if (!time(t)) {
      return no(-2);
    }
    for (int w = 0; w <= 9; w++) {
      if (now.tell(1, w).ahead(t).carries()) {
        return w;
      }
    }
    return -1;
  }

  public int bestCell(int mote, int t) {
    if (!isMote(mote) || !time(t)) {
      return no(-2);
    }
    int best = -1;
    int most = -1;
    for (int c = 0; c < 100; c++) {
      if (now.cell(c) && now.mote(mote, 2, c).ahead(t).votes() > most) {
        most = now.mote(mote, 2, c).ahead(t).votes();
        best = c;
      }
    }
    return best;
  }

  public int runs(int t) {
    if (!time(t)) {
      return no(-2);
    }
    int times = 0;
    for (int i = 0; i <= t; i++) {
      times += bit(now.ahead(i).carries());
    }
    return times;
  }

  public int round() {
    for (int t = 1; t <= 24; t++) {
      boolean same = true;
      for (int m = 0; m < now.motes.size(); m++) {
        same &= now.ahead(t).at(m) == now.at(m);
      }
      if (same) {
        return t;
      }
    }
    return -1;
  }

  public int way(int mote) {
    if (!isMote(mote)) {
      return no(-2);
    }
    Set<Integer> been = new HashSet<>();
    for (int t = 0; t <= 24; t++) {
      been.add(now.ahead(t).at(mote));
    }
    return been.size();
  }

  public int walled(int t) {
    if (!time(t)) {
      return no(-2);
    }
    return (int) now.ahead(t).motes.stream()
        .filter(m -> m[2] / 10 % (now.side - 1) == 0 || m[2] % 10 % (now.side - 1) == 0).count();
  }

  public int stirred() {
    int bits = 0;
    for (int m = 0; m < now.motes.size(); m++) {
      bits += now.step().at(m) != now.at(m) ? 1 << m : 0;
    }
    return bits;
  }

  public int ofKind(int kind) {
    return in(kind, 0, 5) ? (int) now.motes.stream().filter(m -> m[0] == kind).count() : no(-2);
  }

  private int wrong(int s, int n) {
    for (int i = 0; i < n; i++) {
      long v = get(shelf[s], i);
      if (!in(v, 0, 1000) || !settings().contains((int) v)) {
        return i;
      }
    }
    return -1;
  }

  public int judge(int s, int n) {
    int problem = rowProblem(s, in(n, 0, 40), n);
    return problem != 0 ? no(problem) : wrong(s, n);
  }

  private Room session(int s, int n) {
    Room then = now;
    for (int i = 0; i < n; i++) {
      int v = (int) get(shelf[s], i);
      then = then.set(v / 10, v % 10).step();
    }
    return then;
  }

  public int behind(int s, int n, int what) {
    boolean mayAsk = in(what, 0, 1) || in(what, 10, 19) && isMote(what - 10);
    int problem = rowProblem(s, in(n, 0, 40) && mayAsk, n);
    if (problem != 0) {
      return no(problem);
    }
    if (wrong(s, n) != -1) {
      return no(-5);
    }
    Room then = session(s, n);
    return what == 0 ? then.votes() : what == 1 ? bit(then.carries()) : then.at(what - 10);
  }

  public int done(int s, int n) {
    int problem = rowProblem(s, in(n, 0, 40), n);
    if (problem != 0) {
      return no(problem);
    }
    if (wrong(s, n) != -1) {
      return no(-5);
    }
    now = session(s, n);
    return now.votes();
  }

  public int steps(int n) {
    if (!in(n, 1, 24)) {
      return no(-2);
    }
    now = now.ahead(n);
    return now.votes();
  }

  public int hours(int n) {
    if (!in(n, 1, 60)) {
      return no(-2);
    }
    int times = 0;
    for (int i = 0; i < n; i++) {
      for (int d = 0; d < 4; d++) {
        BigInteger next = BigInteger.valueOf(now.seed).multiply(BigInteger.valueOf(1103515245))
            .add(BigInteger.valueOf(12345));
        now = now.seed(next.intValue());
        int draw = ((now.seed >> 16) & 0xFFFF) % 12;
        now = now.set(now.doors & ~(1 << d) | bit(draw < now.chance) << d, now.fan);
      }
      now = now.step();
      times += bit(now.carries());
    }
    return times;
  }

  public int seed(int v) {
    int was = now.seed;
    now = now.seed(v);
    return was;
  }

  public int image() {
    kept = now;
    return 1;
  }

  public int back() {
    if (kept == null) {
      return no(-5);
    }
    now = kept;
    for (int s = 0; s < 8; s++) {
      if (shelf[s] instanceof Integer m && m >= now.motes.size()) {
        shelf[s] = null;
      }
    }
    return 1;
  }

  public int status(int what) {
    int filled = 0;
    for (Object held : shelf) {
      filled += bit(held != null);
    }
    int[] all = {now.motes.size(), now.side, now.doors, now.fan, now.warmth, now.hour, now.beam,
        now.chance, now.all(), tape.length(), now.seed, filled, refused[2], refused[3],
        refused[4], refused[5], refused[6]};
    return in(what, 0, 16) ? all[what] : -1;
  }
}
