import java.io.IOException;
import java.nio.file.Files;
import java.nio.file.Path;
import java.util.ArrayList;
import java.util.LinkedHashMap;
import java.util.List;
import java.util.Map;
import java.util.TreeSet;

/**
 * The document's sentences with runs of their own. The sentences of a heading are told in order,
 * in the document's words; one that is skipped, or that doesn't stand there, is a fault.
 */
final class Edges {
  private static final Path DOC = Path.of("../shared/DOC.md");
  private static final String SEPARATORS = " .,;:()-";

  private final Class<?> subject;
  private final Map<String, String> texts = new LinkedHashMap<>();
  private final Map<String, Integer> reached = new LinkedHashMap<>();
  private final List<String> problems = new ArrayList<>();
  private final TreeSet<String> broken = new TreeSet<>();
  private String heading = "";
  private int sentences;
  private int runs;

  Edges(Class<?> subject) throws IOException {
    this.subject = subject;
    for (String part : Files.readString(DOC).split("(?m)^## ")) {
      String[] lines = part.split("\n", 2);
      if (lines.length == 2) {
        String text = lines[1].replaceAll("(?m)^```.*$", "").replaceAll("\\s+", " ").trim();
        texts.put(lines[0].trim(), text);
      }
    }
  }

  /** What comes next stands under this heading. */
  void under(String to) {
    if (!texts.containsKey(to)) {
      fault("there is no heading " + to);
      texts.put(to, "");
    }
    heading = to;
    reached.putIfAbsent(to, 0);
  }

  /** Under the heading of a promise, behind its signature. */
  void promise(int n, String name) {
    under("Promise " + n + ": " + name);
    String text = texts.get(heading);
    int end = text.startsWith("`") ? text.indexOf('`', 1) : -1;
    if (end > 0) {
      reached.put(heading, end + 1);
    }
  }

  /** Words that name no boundary: what they tell is tested beside their neighbours. */
  void plain(String quote) {
    claim(quote);
  }

  /** From the one quotation to the end of the other. */
  void plain(String from, String to) {
    claim(from);
    int at = texts.get(heading).indexOf(to, reached.get(heading));
    if (at < 0) {
      fault("not under " + heading + ": " + to);
    } else {
      reached.put(heading, at + to.length());
    }
  }

  /**
   * A sentence with its runs, each on a new object. The first that fails is enough: where 25 is
   * taken for a time that may be, a later run with the greatest int would hardly end.
   */
  void edge(String quote, String... its) {
    claim(quote);
    sentences++;
    if (its.length == 0) {
      fault("no run for: " + quote);
    }
    for (int i = 0; i < its.length && play(quote, its[i]); i++) {
      runs++;
    }
  }

  /** A sentence by which each of the calls is refused so, behind the same set-up. */
  void refused(String quote, String why, String setUp, String... its) {
    String[] all = new String[its.length];
    for (int i = 0; i < its.length; i++) {
      all[i] = setUp + " " + its[i] + "=" + why;
    }
    edge(quote, all);
  }

  private boolean play(String quote, String run) {
    String problem = new Run(subject, run.trim()).problem(true);
    if (problem != null) {
      broken.add(heading + " | " + quote);
      fault(heading + " | " + quote + " | " + run.trim() + " | " + problem);
    }
    // The second telling must know the sentence too; else the two would not check one another.
    if (subject == MotesHaveASeat.class) {
      String other = new Run(Model.class, run.trim()).problem(false);
      if (other != null) {
        fault("the Model: " + heading + " | " + quote + " | " + run.trim() + " | " + other);
      }
    }
    return problem == null;
  }

  private void claim(String quote) {
    String text = texts.get(heading);
    int from = reached.get(heading);
    int at = text.indexOf(quote, from);
    if (at < 0) {
      fault("not under " + heading + ", or not in this order: " + quote);
      return;
    }
    skipped(text.substring(from, at));
    reached.put(heading, at + quote.length());
  }

  private void skipped(String between) {
    for (char c : between.toCharArray()) {
      if (SEPARATORS.indexOf(c) < 0) {
        fault("skipped under " + heading + ": " + between);
        return;
      }
    }
  }

  private void fault(String text) {
    problems.add(text);
  }

  /** Headings and quotations whose runs did not go as due. */
  TreeSet<String> broken() {
    return broken;
  }

  void end() {
    for (String h : texts.keySet()) {
      if (!h.equals("The public face") && !h.equals("Not promised")) {
        heading = h;
        skipped(texts.get(h).substring(reached.getOrDefault(h, 0)));
      }
    }
    problems.forEach(System.out::println);
    System.out.println(sentences + " sentences with " + runs + " runs, " + problems.size()
        + " not as due");
    if (!problems.isEmpty() || runs == 0) {
      System.exit(1);
    }
  }
}
