import java.lang.reflect.InvocationTargetException;
import java.lang.reflect.Method;
import java.util.ArrayList;
import java.util.Arrays;
import java.util.HashMap;
import java.util.List;
import java.util.Map;
import java.util.Random;
import java.util.TreeMap;

/** Runs of calls by a fixed seed, asked of the class and of the Model: all answers are the same. */
public final class MotesModelTest {
  private static final int RUNS = 1500;
  private static final int CALLS = 500;

  /** A letter for each argument: what numbers may stand there (see least and most). */
  private static final String[] FACE = {
      "row sok", "set siv", "copy ssiik", "element si", "holds s", "show sm", "says sp", "side n",
      "mote pac", "put mc", "door db", "tell wj", "feed l", "wipe", "hall", "moteOf me", "lit ch",
      "where mt", "votes tx", "when x", "setting ty", "which sty", "kinds skm", "centre tx",
      "whips ty", "answer tf", "odds zy", "first y", "crowd ct", "thick t", "arrives mc",
      "lights m", "meet mm", "beamFor t", "warmthFor t", "bestCell mt", "many t", "runs t",
      "together mm", "round", "way m", "walled t", "doorFor t", "stirred", "ofKind p", "judge sk",
      "behind skg", "done sk", "steps u", "hours r", "seed v", "image", "back", "status q"};

  private static final Map<String, Method> OURS = methods(MotesHaveASeat.class);
  private static final Map<String, Method> MODELS = methods(Model.class);
  private static final Map<String, int[]> SEEN = new TreeMap<>();

  private final Random random;
  private final MotesHaveASeat x = new MotesHaveASeat();
  private final Model model = new Model();
  private final List<String> told = new ArrayList<>();
  private final double wrongness;

  private MotesModelTest(long seed) {
    random = new Random(seed);
    wrongness = seed % 3 == 0 ? 0.10 : 0.01;
  }

  private static Map<String, Method> methods(Class<?> of) {
    Map<String, Method> all = new HashMap<>();
    for (Method m : of.getDeclaredMethods()) {
      if (java.lang.reflect.Modifier.isPublic(m.getModifiers())) {
        all.put(m.getName(), m);
      }
    }
    return all;
  }

  public static void main(String[] args) throws Exception {
    if (OURS.size() != FACE.length) {
      System.out.println("the face has " + OURS.size() + " methods, tested are " + FACE.length);
      System.exit(1);
    }
    int wrong = 0;
    for (int run = 0; run < RUNS && wrong < 5; run++) {
      MotesModelTest test = new MotesModelTest(run);
      if (!test.run()) {
        wrong++;
        System.out.println("run " + run + ":");
        test.told.subList(Math.max(0, test.told.size() - 40), test.told.size())
            .forEach(System.out::println);
      }
    }
    if (args.length > 0) {
      SEEN.forEach((name, n) -> System.out.println(name + " " + Arrays.toString(n)));
    }
    for (String method : FACE) {
      String name = method.split(" ")[0];
      if (wrong == 0 && (!SEEN.containsKey(name) || SEEN.get(name)[0] == 0)) {
        wrong++;
        System.out.println(name + " never answered without a refusal");
      }
    }
    System.out.println(RUNS + " runs, " + wrong + " wrong");
    if (wrong != 0) {
      System.exit(1);
    }
  }

  private boolean run() throws Exception {
    for (int m = random.nextInt(11); m > 0 && random.nextInt(8) > 0; m--) {
      if (!call("mote", random.nextInt(6), random.nextInt(10), cell())) {
        return false;
      }
    }
    while (told.size() < CALLS) {
      boolean same;
      switch (random.nextInt(18)) {
        case 0: same = feedText(); break;
        case 1: same = tellPlaces(); break;
        case 2: same = tellWay(); break;
        case 3: same = tellSession(); break;
        case 4: same = copyRow(); break;
        case 5: same = showAndAsk(); break;
        case 6: same = tellOne(); break;
        default: same = callAny(); break;
      }
      if (!same) {
        return false;
      }
    }
    for (int what = -1; what <= 17; what++) {
      if (!call("status", what)) {
        return false;
      }
    }
    return true;
  }

  private boolean callAny() throws Exception {
    String[] face = FACE[random.nextInt(FACE.length)].split(" ");
    // Odds ahead of three steps cost the Model thousands of halls.
    if (face[0].equals("odds") && random.nextInt(6) > 0) {
      return call("odds", random.nextInt(3), random.nextInt(2));
    }
    String letters = face.length > 1 ? face[1] : "";
    long[] args = new long[letters.length()];
    for (int i = 0; i < args.length; i++) {
      args[i] = argument(letters.charAt(i));
    }
    return call(face[0], args);
  }

  private long argument(char letter) {
    if (random.nextDouble() < wrongness) {
      long[] odd = {-1, -2, most(letter) + 1, 7, 8, 10, 40, 41, 25, Integer.MIN_VALUE,
          Integer.MAX_VALUE, random.nextInt()};
      return odd[random.nextInt(odd.length)];
    }
    switch (letter) {
      case 'c': return cell();
      case 'v': return random.nextBoolean() ? random.nextInt(200) : random.nextLong();
      case 'g': return random.nextBoolean() ? random.nextInt(2) : 10 + random.nextInt(10);
      case 'k': case 'i': return random.nextInt(random.nextBoolean() ? 5 : 41);
      case 'n': return 6 + random.nextInt(20) / 19;
      case 'l': return random.nextInt(256);
      case 'm': return model.status(0) == 0 ? 0 : random.nextInt(model.status(0));
      case 't': return random.nextInt(random.nextBoolean() ? 4 : 25);
      case 'u': return 1 + random.nextInt(4);
      case 'r': return 1 + random.nextInt(60);
      default: return random.nextInt(most(letter) + 1);
    }
  }

  private static int most(char letter) {
    switch (letter) {
      case 's': return 7;
      case 'o': case 'e': case 'f': case 'w': return 4;
      case 'k': case 'i': return 40;
      case 'm': case 'a': return 9;
      case 'p': return 5;
      case 'n': return 7;
      case 'c': return 66;
      case 'd': case 'z': return 3;
      case 'b': case 'y': return 1;
      case 'l': return 255;
      case 'h': return 999;
      case 't': case 'u': return 24;
      case 'x': return 2;
      case 'r': return 60;
      case 'q': return 17;
      case 'j': return 5;
      default: return 19;
    }
  }

  private int cell() {
    return 10 * random.nextInt(model.status(1)) + random.nextInt(model.status(1));
  }

  private boolean feedText() throws Exception {
    StringBuilder text = new StringBuilder();
    int statements = 1 + random.nextInt(4);
    for (int i = 0; i < statements; i++) {
      text.append(i == 0 ? "" : random.nextInt(30) == 0 ? "" : ";").append(statement());
    }
    if (random.nextInt(4) == 0) {
      int at = random.nextInt(text.length());
      String odd = " ;a0Z9\u00e9";
      if (random.nextBoolean()) {
        text.setCharAt(at, odd.charAt(random.nextInt(odd.length())));
      } else {
        text.setLength(at);
      }
    }
    for (int i = 0; i < text.length(); i++) {
      if (!call("feed", text.charAt(i))) {
        return false;
      }
    }
    return call("hall");
  }

  private String statement() {
    String[] words = {"side", "mote", "open", "shut", "fan", "warm", "beam", "hour", "chance"};
    int[] mosts = {8, 6, 4, 4, 5, 10, 7, 1002, 13};
    int word = random.nextInt(words.length);
    StringBuilder text = new StringBuilder(random.nextInt(5) == 0 ? " " : "");
    text.append(words[word]).append(random.nextInt(4) == 0 ? "" : " ");
    if (words[word].equals("mote")) {
      text.append(random.nextInt(20) == 0 ? 6 : random.nextInt(6)).append(' ')
          .append(random.nextInt(20) == 0 ? 10 : random.nextInt(10)).append(' ')
          .append(random.nextInt(10) == 0 ? 66 : cell());
    } else if (word == 0) {
      text.append(5 + random.nextInt(3));
    } else {
      int v = random.nextInt(mosts[word] + 1);
      text.append(random.nextInt(6) == 0 ? String.format("%03d", v) : String.valueOf(v));
    }
    return text.append(random.nextInt(5) == 0 ? "  " : "").toString();
  }

  private boolean tellPlaces() throws Exception {
    int s = random.nextInt(8);
    int t = random.nextInt(5);
    int motes = model.status(0);
    boolean same = call("row", s, random.nextInt(4), motes + random.nextInt(2));
    for (int m = 0; m < motes && same; m++) {
      same = call("set", s, m, model.where(m, t));
    }
    return same && call("which", s, t, 0) && call("which", s, t, 1);
  }

  private boolean tellWay() throws Exception {
    int s = random.nextInt(8);
    int n = random.nextInt(12);
    int motes = model.status(0);
    if (motes == 0) {
      return true;
    }
    int mote = random.nextInt(motes);
    boolean same = call("row", s, random.nextInt(4), n);
    for (int i = 0; i < n && same; i++) {
      same = call("set", s, i, model.where(mote, i + 1));
    }
    return same && call("kinds", s, n, random.nextInt(motes)) && call("kinds", s, n, mote);
  }

  private boolean copyRow() throws Exception {
    int p = random.nextInt(8);
    int q = random.nextInt(8);
    int sort = random.nextInt(5);
    int n = random.nextInt(7);
    boolean same = call("row", p, sort, n) && call("row", q, random.nextInt(9) == 0 ? 2 : sort, 4);
    for (int i = 0; i < n && same; i++) {
      same = call("set", p, i, random.nextLong());
    }
    for (int time = 0; time < 3 && same; time++) {
      int to = random.nextBoolean() ? q : p;
      same = call("copy", p, to, random.nextInt(4), random.nextInt(4), random.nextInt(4));
      for (int i = 0; i < 8 && same; i++) {
        same = call("element", to, i);
      }
    }
    return same;
  }

  private boolean showAndAsk() throws Exception {
    int s = random.nextInt(8);
    return call("show", s, argument('m')) && call("says", s, argument('p'))
        && call("says", s, argument('p')) && call("holds", s);
  }

  private boolean tellOne() throws Exception {
    int what = random.nextInt(5);
    int[] mosts = {4, 9, 999, 6, 12};
    int v = random.nextInt(mosts[what] + 1);
    return call("tell", what, what == 2 && random.nextBoolean() ? 999 - v % 30 : v);
  }

  private boolean tellSession() throws Exception {
    int s = random.nextInt(8);
    int n = random.nextInt(8);
    boolean same = call("row", s, random.nextInt(5), n);
    for (int i = 0; i < n && same; i++) {
      int v = 10 * random.nextInt(16) + random.nextInt(5);
      same = call("set", s, i, random.nextInt(20) == 0 ? argument('v') : v);
    }
    return same && call("judge", s, n) && call("behind", s, n, argument('g'))
        && call("behind", s, n, random.nextInt(2)) && call("done", s, n);
  }

  /** Asks both; whether they answered the same. */
  private boolean call(String name, long... args) throws Exception {
    Method method = OURS.get(name);
    Class<?>[] types = method.getParameterTypes();
    Object[] given = new Object[types.length];
    for (int i = 0; i < types.length; i++) {
      given[i] = types[i] == int.class ? (Object) (int) args[i]
          : types[i] == long.class ? (Object) args[i] : (Object) (args[i] != 0);
    }
    long want = ((Number) MODELS.get(name).invoke(model, given)).longValue();
    String call = name + Arrays.toString(given);
    long got;
    try {
      got = ((Number) method.invoke(x, given)).longValue();
    } catch (InvocationTargetException thrown) {
      told.add(call + " threw " + thrown.getCause() + ", due is " + want);
      return false;
    }
    told.add(call + " answered " + got + (got == want ? "" : ", due is " + want));
    SEEN.computeIfAbsent(name, n -> new int[2])[got >= -1 || got <= -20 ? 0 : 1]++;
    return got == want;
  }
}
