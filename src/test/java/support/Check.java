import java.util.function.IntSupplier;

/** Counts answers that are not as due, and watches that a refusal changes nothing else. */
final class Check {
  private static final String[] REFUSALS = {"BAD", "OTHER", "NOTHING", "STUCK", "FULL"};

  private int asked;
  private int wrong;

  void due(String call, long got, long want) {
    asked++;
    if (got != want) {
      wrong++;
      System.out.println(call + " answered " + got + ", due is " + want);
    }
  }

  void that(String claim, boolean holds) {
    due(claim, holds ? 1 : 0, 1);
  }

  /** The call answers the refusal, which is counted once; all else is as it was. */
  void refused(MotesHaveASeat x, String call, int why, IntSupplier asked) {
    refusedAs(x, call, why, why, asked);
  }

  void refusedAs(MotesHaveASeat x, String call, int answer, int why, IntSupplier asked) {
    String ahead = seen(x);
    int[] counts = counts(x);
    due(call, asked.getAsInt(), answer);
    that(call + " changes nothing", ahead.equals(seen(x)));
    int[] then = counts(x);
    for (int i = 0; i < counts.length; i++) {
      due(call + ": how many " + REFUSALS[i], then[i] - counts[i], i == -2 - why ? 1 : 0);
    }
  }

  /** All that can be looked at without a refusal, but THE TAPE's size and how many refusals. */
  static String seen(MotesHaveASeat x) {
    StringBuilder all = new StringBuilder();
    for (int what = 0; what <= 11; what++) {
      all.append(what == 9 ? 0 : x.status(what)).append(' ');
    }
    for (int m = 0; m < x.status(0); m++) {
      for (int what = 0; what <= 2; what++) {
        all.append(x.moteOf(m, what)).append(' ');
      }
    }
    for (int s = 0; s < 8; s++) {
      all.append(x.holds(s)).append(':');
      for (int i = 0; i < 40; i++) {
        all.append(x.element(s, i)).append(' ');
      }
    }
    return all.toString();
  }

  static int[] counts(MotesHaveASeat x) {
    int[] counts = new int[5];
    for (int i = 0; i < 5; i++) {
      counts[i] = x.status(12 + i);
    }
    return counts;
  }

  /** Feeds a text and reads it. */
  static int read(MotesHaveASeat x, String text) {
    for (int i = 0; i < text.length(); i++) {
      x.feed(text.charAt(i));
    }
    return x.hall();
  }

  static void fill(MotesHaveASeat x, int s, int sort, long... elements) {
    x.row(s, sort, elements.length);
    for (int i = 0; i < elements.length; i++) {
      x.set(s, i, elements[i]);
    }
  }

  void end() {
    System.out.println(asked + " answers looked at, " + wrong + " not as due");
    if (wrong != 0 || asked == 0) {
      System.exit(1);
    }
  }
}
