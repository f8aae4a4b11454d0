import java.lang.reflect.InvocationTargetException;
import java.lang.reflect.Method;
import java.lang.reflect.Modifier;
import java.util.ArrayList;
import java.util.HashMap;
import java.util.List;
import java.util.Map;
import java.util.Objects;
import java.util.Set;
import java.util.regex.Matcher;
import java.util.regex.Pattern;

/**
 * A run of calls on a new object, told as a text: "side(7)=6 status(1)=7 side(6)=BAD".
 *
 * <p>Behind = stands the answer that is due: a number, NONE, the name of a refusal, or FAULT and a
 * place. A call without one sets something up and must not be refused. mote(0, 1, 0)*10 is ten
 * calls. read('fan 1') feeds the bytes and asks hall(); feeds('fan') feeds alone; fill(s, sort, v,
 * ..) makes a row and sets its elements.
 *
 * <p>Each call that is refused or that only asks is watched: all that can be seen of an object on
 * which it was called, THE TAPE and what is kept included, is as on one on which it was not.
 */
final class Run {
  static final int MOST_CALLS = 512;
  /** Behind so many calls there is no room left to look at all that can be seen. */
  private static final int MOST_WATCHED = 400;

  private static final Pattern CALL = Pattern.compile(
      "\\s*(\\w+)\\(((?:'[^']*'|[^')])*)\\)(?:\\*(\\d+))?(?:=(-?\\w+))?\\s*");
  private static final List<String> REFUSALS = List.of("BAD", "OTHER", "NOTHING", "STUCK", "FULL");
  private static final Set<String> QUESTIONS = Set.of("element", "holds", "says", "moteOf", "lit",
      "where", "votes", "when", "setting", "which", "kinds", "centre", "whips", "answer", "odds",
      "first", "crowd", "thick", "arrives", "lights", "meet", "beamFor", "warmthFor", "bestCell",
      "many", "runs", "together", "round", "way", "walled", "doorFor", "stirred", "ofKind", "judge",
      "behind", "status");
  /** They may answer any number without a refusal. */
  private static final Set<String> ANY_NUMBER = Set.of("element", "seed", "status");
  private static final Map<String, Long> NUMBERS = Map.of("NONE", -1L,
      "MIN", (long) Integer.MIN_VALUE, "MAX", (long) Integer.MAX_VALUE,
      "LMIN", Long.MIN_VALUE, "LMAX", Long.MAX_VALUE, "true", 1L, "false", 0L);

  /** The refusal is -2 to -6, or 0; an answer that is not told is null. */
  private record Call(String name, long[] args, Long due, int refusal, boolean isAgain) {
    boolean isWatched() {
      return !isAgain && (refusal != 0 || QUESTIONS.contains(name));
    }

    @Override public String toString() {
      StringBuilder text = new StringBuilder(name).append('(');
      for (int i = 0; i < args.length; i++) {
        text.append(i == 0 ? "" : ", ").append(args[i]);
      }
      return text.append(')').toString();
    }
  }

  private final Class<?> subject;
  private final Map<String, Method> methods = new HashMap<>();
  private final List<Call> calls = new ArrayList<>();

  Run(Class<?> subject, String text) {
    this.subject = subject;
    for (Method m : subject.getDeclaredMethods()) {
      if (Modifier.isPublic(m.getModifiers())) {
        methods.put(m.getName(), m);
      }
    }
    Matcher m = CALL.matcher(text);
    int at = 0;
    while (at < text.length()) {
      if (!m.find(at) || m.start() != at) {
        throw new IllegalArgumentException("no call at " + at + " in " + text);
      }
      int times = m.group(3) == null ? 1 : Integer.parseInt(m.group(3));
      for (int i = 0; i < times; i++) {
        take(m.group(1), m.group(2), m.group(4), i > 0);
      }
      at = m.end();
    }
  }

  private static long number(String text) {
    Long named = NUMBERS.get(text);
    return named != null ? named : Long.parseLong(text);
  }

  private static int refusal(String due) {
    if (due == null) {
      return 0;
    }
    return due.startsWith("FAULT") ? -2 : REFUSALS.contains(due) ? -2 - REFUSALS.indexOf(due) : 0;
  }

  private static Long answer(String due) {
    if (due == null) {
      return null;
    }
    if (due.startsWith("FAULT")) {
      return -20 - Long.parseLong(due.substring("FAULT".length()));
    }
    return refusal(due) != 0 ? Long.valueOf(refusal(due)) : Long.valueOf(number(due));
  }

  private void add(String name, String due, boolean isAgain, long... args) {
    calls.add(new Call(name, args, answer(due), refusal(due), isAgain));
  }

  private void take(String name, String list, String due, boolean isAgain) {
    if (name.equals("read") || name.equals("feeds")) {
      for (char letter : list.substring(1, list.length() - 1).toCharArray()) {
        add("feed", null, isAgain, letter);
      }
      if (name.equals("read")) {
        add("hall", due, isAgain);
      }
      return;
    }
    String[] told = list.isBlank() ? new String[0] : list.trim().split("\\s*,\\s*");
    long[] args = new long[told.length];
    for (int i = 0; i < told.length; i++) {
      args[i] = number(told[i]);
    }
    if (name.equals("fill")) {
      add("row", "1", isAgain, args[0], args[1], args.length - 2);
      for (int i = 2; i < args.length; i++) {
        add("set", "1", isAgain, args[0], i - 2, args[i]);
      }
      return;
    }
    add(name, due, isAgain, args);
  }

  /** An object and how often it was asked. */
  private final class Player {
    private final Object object;
    private int asked;

    Player() throws ReflectiveOperationException {
      object = subject.getDeclaredConstructor().newInstance();
    }

    long ask(String name, long... args) throws ReflectiveOperationException {
      Method method = methods.get(name);
      if (method == null) {
        throw new IllegalArgumentException("no call " + name);
      }
      Class<?>[] types = method.getParameterTypes();
      if (types.length != args.length) {
        throw new IllegalArgumentException(name + " takes " + types.length);
      }
      Object[] given = new Object[types.length];
      for (int i = 0; i < types.length; i++) {
        given[i] = types[i] == int.class ? (Object) Math.toIntExact(args[i])
            : types[i] == long.class ? (Object) args[i] : (Object) (args[i] != 0);
      }
      asked++;
      if (asked > MOST_CALLS) {
        throw new IllegalStateException("more than " + MOST_CALLS + " calls");
      }
      return ((Number) method.invoke(object, given)).longValue();
    }

    void play(int from, int to) throws ReflectiveOperationException {
      for (int i = from; i < to; i++) {
        ask(calls.get(i).name, calls.get(i).args);
      }
    }
  }

  /** What is wrong in the run; null: nothing. */
  String problem(boolean watch) {
    try {
      return firstProblem(watch);
    } catch (InvocationTargetException thrown) {
      return "threw " + thrown.getCause();
    } catch (ReflectiveOperationException none) {
      return "can't be called: " + none;
    } catch (IllegalStateException tooMany) {
      return tooMany.getMessage();
    }
  }

  private String firstProblem(boolean watch) throws ReflectiveOperationException {
    Player player = new Player();
    for (int i = 0; i < calls.size(); i++) {
      Call call = calls.get(i);
      long got = player.ask(call.name, call.args);
      if (call.due != null && got != call.due) {
        return "call " + (i + 1) + ", " + call + ", answered " + got + ", due is " + call.due;
      }
      if (call.due == null && got < -1 && !ANY_NUMBER.contains(call.name)) {
        return "call " + (i + 1) + ", " + call + ", was refused: " + got;
      }
      String change = watch && i < MOST_WATCHED && call.isWatched() ? change(i) : null;
      if (change != null) {
        return "call " + (i + 1) + ", " + call + ", " + change;
      }
    }
    return null;
  }

  /** What call i changed though it must not; null: nothing. */
  private String change(int i) throws ReflectiveOperationException {
    for (String look : new String[] {"", "hall", "back"}) {
      Player ahead = new Player();
      ahead.play(0, i);
      int[] before = counts(ahead);
      if (calls.get(i).name.equals("hall")) {
        ahead.ask("wipe");
      }
      Player behind = new Player();
      behind.play(0, i + 1);
      int[] then = counts(behind);
      for (int k = 0; k < then.length; k++) {
        int more = k == -2 - calls.get(i).refusal ? 1 : 0;
        if (then[k] - before[k] != more) {
          return "brought " + (then[k] - before[k]) + " " + REFUSALS.get(k);
        }
      }
      String was = seen(ahead, look);
      String is = seen(behind, look);
      if (!Objects.equals(was, is)) {
        return "changed (seen by '" + look + "') " + was + " to " + is;
      }
    }
    return null;
  }

  private static int[] counts(Player p) throws ReflectiveOperationException {
    int[] counts = new int[REFUSALS.size()];
    for (int k = 0; k < counts.length; k++) {
      counts[k] = (int) p.ask("status", 12 + k);
    }
    return counts;
  }

  private static String seen(Player p, String look) throws ReflectiveOperationException {
    StringBuilder all = new StringBuilder();
    if (!look.isEmpty()) {
      all.append(p.ask(look)).append(": ");
    }
    for (int what = 0; what <= 11; what++) {
      all.append(p.ask("status", what)).append(' ');
    }
    long motes = p.ask("status", 0);
    for (int m = 0; m < motes; m++) {
      all.append(", ").append(p.ask("moteOf", m, 0)).append(' ').append(p.ask("moteOf", m, 1))
          .append(' ').append(p.ask("moteOf", m, 2));
    }
    for (int s = 0; s < 8; s++) {
      long holds = p.ask("holds", s);
      all.append("; ").append(holds);
      if (holds >= 0 && holds <= 4) {
        int size = 40;
        while (size > 0 && p.ask("judge", s, size) == -2) {
          size--;
        }
        for (int i = 0; i < size; i++) {
          all.append(' ').append(p.ask("element", s, i));
        }
      }
    }
    return all.toString();
  }
}
