/** Counts calls whose answer is not the one that is due, and prints them. */
final class Check {
  interface Ask {
    long answer();
  }

  interface Tell {
    void run();
  }

  static final Class<? extends RuntimeException> INDEX = IndexOutOfBoundsException.class;
  static final Class<? extends RuntimeException> ARGUMENT = IllegalArgumentException.class;
  static final Class<? extends RuntimeException> STATE = IllegalStateException.class;

  private int wrong;
  private int looked;

  void is(String call, long due, Ask ask) {
    String got;
    try {
      got = Long.toString(ask.answer());
    } catch (RuntimeException e) {
      got = e.getClass().getName();
    }
    same(call, Long.toString(due), got);
  }

  void runs(String call, Tell tell) {
    same(call, "nothing", outcome(tell));
  }

  /** The class must be the very one: the machine throws subclasses of what the document names. */
  void fails(String call, Class<? extends RuntimeException> due, Tell tell) {
    same(call, due.getName(), outcome(tell));
  }

  void same(String call, String due, String got) {
    looked++;
    if (!due.equals(got)) {
      wrong++;
      System.out.println(call + " answered " + got + ", due is " + due);
    }
  }

  void end() {
    System.out.println(looked + " answers, " + wrong + " not as due");
    if (wrong != 0 || looked == 0) {
      System.exit(1);
    }
  }

  private static String outcome(Tell tell) {
    try {
      tell.run();
      return "nothing";
    } catch (RuntimeException e) {
      return e.getClass().getName();
    }
  }
}
