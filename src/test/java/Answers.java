import java.util.ArrayList;
import java.util.List;

/**
 * All that an object can be asked: as it stands, replanned, and replanned after each item was told.
 * Only the last shows whether an item's data are still as they were, if it would not be netted.
 */
final class Answers {
  interface Recipe {
    void tell(NettedPlans x);
  }

  private interface Question {
    long ask(NettedPlans x);
  }

  /** Few enough for the 512 calls of an object, those of its recipe among them. */
  private static final int AT_ONCE = 250;
  private static final int STAGES = 3;

  private static final List<String> NAMES = new ArrayList<>();
  private static final List<Question> QUESTIONS = new ArrayList<>();

  static {
    askCounts();
    askPlans();
    askPegs();
    askPromises();
    // these change what they ask for, so they come last
    askBookings();
  }

  private Answers() {}

  private static void put(String name, Question question) {
    NAMES.add(name);
    QUESTIONS.add(question);
  }

  private static void askCounts() {
    for (int what = 0; what < 6; what++) {
      int k = what;
      put("count(" + k + ")", x -> x.count(k));
    }
    for (int item = 0; item < 12; item++) {
      int i = item;
      put("level(" + i + ")", x -> x.level(i));
    }
  }

  private static void askPlans() {
    for (int week = 0; week < 12; week++) {
      int w = week;
      for (int item = 0; item < 12; item++) {
        int i = item;
        put("gross(" + i + ", " + w + ")", x -> x.gross(i, w));
        put("planned(" + i + ", " + w + ")", x -> x.planned(i, w));
        put("balance(" + i + ", " + w + ")", x -> x.balance(i, w));
      }
      for (int centre = 0; centre < 3; centre++) {
        int c = centre;
        put("load(" + c + ", " + w + ")", x -> x.load(c, w));
      }
    }
  }

  private static void askPegs() {
    for (int demand = 0; demand < 24; demand++) {
      int d = demand;
      put("peg(" + d + ", 0, 0)", x -> x.peg(d, 0, 0));
      for (int order = 0; order < 24; order++) {
        int o = order;
        put("peg(" + d + ", 1, " + o + ")", x -> x.peg(d, 1, o));
      }
      for (int week = 0; week < 12; week++) {
        int w = week;
        put("peg(" + d + ", 2, " + w + ")", x -> x.peg(d, 2, w));
      }
    }
  }

  private static void askPromises() {
    for (int item = 0; item < 12; item++) {
      int i = item;
      for (int n = 1; n <= 1000; n *= 10) {
        int k = n;
        put("promise(" + i + ", " + k + ", 0)", x -> x.promise(i, k, 0));
      }
    }
  }

  private static void askBookings() {
    for (int number = 0; number < 25; number++) {
      int k = number;
      put("change(0, " + k + ", 0)", x -> x.change(0, k, 0));
      put("change(1, " + k + ", 0)", x -> x.change(1, k, 0));
      put("giveBack(" + k + ")", x -> x.giveBack(k));
    }
    for (int item = 0; item < 12; item++) {
      int i = item;
      put("stock(" + i + ", 0)", x -> x.stock(i, 0));
    }
  }

  static List<String> of(Recipe recipe) {
    List<String> answers = new ArrayList<>();
    for (int stage = 0; stage < STAGES; stage++) {
      for (int first = 0; first < QUESTIONS.size(); first += AT_ONCE) {
        NettedPlans x = new NettedPlans();
        recipe.tell(x);
        answers.add("stage " + stage + ", netted: " + replanned(x, stage));
        for (int k = first; k < Math.min(first + AT_ONCE, QUESTIONS.size()); k++) {
          answers.add("stage " + stage + ", " + NAMES.get(k) + ": " + answer(x, QUESTIONS.get(k)));
        }
      }
    }
    return answers;
  }

  private static int replanned(NettedPlans x, int stage) {
    if (stage == 2) {
      for (int i = 0; i < 12; i++) {
        x.line(i, i, 0, 0, 0);
      }
    }
    return stage == 0 ? 0 : x.replan();
  }

  private static String answer(NettedPlans x, Question question) {
    try {
      return Long.toString(question.ask(x));
    } catch (RuntimeException e) {
      return e.getClass().getName();
    }
  }

  /** The first two answers that are not the same, or nothing. */
  static String difference(List<String> due, List<String> got) {
    for (int k = 0; k < due.size() && k < got.size(); k++) {
      if (!due.get(k).equals(got.get(k))) {
        return got.get(k) + ", but was " + due.get(k);
      }
    }
    return due.size() == got.size() ? "nothing" : "number of answers";
  }
}
