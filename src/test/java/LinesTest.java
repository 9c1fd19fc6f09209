/** Promises 5 and 11: line, level. */
public final class LinesTest {
  private static final Check CHECK = new Check();

  public static void main(String[] args) {
    lineAsks();
    lineHasWeeks();
    lineIsReplaced();
    lineIsTakenAway();
    eachLineTellsTheChild();
    lineRefusesArguments();
    noRing();
    noLevelAboveFour();
    atMost24Lines();
    fullAndRing();
    takenAwayInAnyWeeks();
    refusedLineLeavesTheOneThereWas();
    levels();
    CHECK.end();
  }

  private static void lineAsks() {
    NettedPlans x = new NettedPlans();
    x.item(0, 0, 1, 2, 0);
    x.line(0, 11, 9, 0, 11);
    x.demand(0, 4, 10);
    x.demand(11, 2, 1);
    x.replan();
    CHECK.is("9 for each, when its making starts", 91, () -> x.gross(11, 2));
    CHECK.is("none when it comes in", 0, () -> x.gross(11, 4));
  }

  private static void lineHasWeeks() {
    NettedPlans x = new NettedPlans();
    x.line(0, 1, 1, 3, 5);
    for (int week = 0; week < 12; week++) {
      x.demand(0, week, 10 + week);
    }
    x.replan();
    for (int week = 0; week < 12; week++) {
      int w = week;
      CHECK.is("gross of week " + w, w >= 3 && w <= 5 ? 10 + w : 0, () -> x.gross(1, w));
    }
    x.item(0, 0, 1, 1, 0);
    x.replan();
    CHECK.is("the week is the one of the start", 14, () -> x.gross(1, 3));
    CHECK.is("not the one of the receipt", 0, () -> x.gross(1, 2));
  }

  private static void lineIsReplaced() {
    NettedPlans x = new NettedPlans();
    x.line(0, 1, 2, 0, 11);
    x.line(0, 1, 3, 0, 0);
    CHECK.is("one line", 1, () -> x.count(0));
    x.demand(0, 0, 5);
    x.demand(0, 1, 5);
    x.replan();
    CHECK.is("by the new one", 15, () -> x.gross(1, 0));
    CHECK.is("in its weeks", 0, () -> x.gross(1, 1));
  }

  private static void lineIsTakenAway() {
    NettedPlans x = new NettedPlans();
    x.line(0, 1, 2, 0, 11);
    x.demand(0, 0, 5);
    x.replan();
    CHECK.runs("weeks don't matter for 0", () -> x.line(0, 1, 0, 12, -1));
    CHECK.is("no line", 0, () -> x.count(0));
    CHECK.is("no level", 0, () -> x.level(1));
    CHECK.is("the child is netted", 1, x::replan);
    CHECK.is("nothing is asked", 0, () -> x.gross(1, 0));
    CHECK.runs("the other way round now", () -> x.line(1, 0, 1, 0, 11));
    CHECK.is("level of the other", 1, () -> x.level(0));
  }

  private static void eachLineTellsTheChild() {
    NettedPlans x = new NettedPlans();
    x.replan();
    CHECK.runs("none to take away", () -> x.line(3, 4, 0, 0, 0));
    CHECK.is("told", 1, () -> x.count(5));
    CHECK.is("the child alone", 1, x::replan);
    CHECK.is("no line less than none", 0, () -> x.count(0));
    CHECK.runs("not even to itself", () -> x.line(4, 4, 0, 0, 0));
    CHECK.is("itself is netted", 1, x::replan);
    x.line(3, 4, 1, 0, 11);
    CHECK.is("a new one", 1, x::replan);
    x.line(3, 4, 1, 0, 11);
    CHECK.is("told", 1, () -> x.count(5));
    CHECK.is("as it was", 1, x::replan);
    x.stock(4, 5);
    x.line(3, 4, 2, 0, 11);
    CHECK.is("the child, told twice", 1, x::replan);
  }

  private static void lineRefusesArguments() {
    NettedPlans x = new NettedPlans();
    x.replan();
    CHECK.fails("parent -1", Check.INDEX, () -> x.line(-1, 1, 1, 0, 11));
    CHECK.fails("parent 12", Check.INDEX, () -> x.line(12, 1, 1, 0, 11));
    CHECK.fails("child -1", Check.INDEX, () -> x.line(0, -1, 1, 0, 11));
    CHECK.fails("child 12", Check.INDEX, () -> x.line(0, 12, 1, 0, 11));
    CHECK.fails("child 12 wins", Check.INDEX, () -> x.line(0, 12, 10, 5, 4));
    CHECK.fails("child 12 for 0", Check.INDEX, () -> x.line(0, 12, 0, 0, 11));
    CHECK.fails("per -1", Check.ARGUMENT, () -> x.line(0, 1, -1, 0, 11));
    CHECK.fails("per 10", Check.ARGUMENT, () -> x.line(0, 1, 10, 0, 11));
    CHECK.fails("from -1", Check.ARGUMENT, () -> x.line(0, 1, 1, -1, 11));
    CHECK.fails("from 12", Check.ARGUMENT, () -> x.line(0, 1, 1, 12, 12));
    CHECK.fails("to -1", Check.ARGUMENT, () -> x.line(0, 1, 1, -1, -1));
    CHECK.fails("to 12", Check.ARGUMENT, () -> x.line(0, 1, 1, 0, 12));
    CHECK.fails("from above to", Check.ARGUMENT, () -> x.line(0, 1, 1, 6, 5));
    CHECK.fails("argument wins over state", Check.ARGUMENT, () -> x.line(0, 0, 10, 0, 11));
    CHECK.fails("weeks win over state", Check.ARGUMENT, () -> x.line(0, 0, 1, 6, 5));
    CHECK.is("nothing is told", 0, () -> x.count(5));
    CHECK.runs("one week", () -> x.line(0, 1, 9, 11, 11));
  }

  private static void noRing() {
    NettedPlans x = new NettedPlans();
    CHECK.fails("to itself", Check.STATE, () -> x.line(7, 7, 1, 0, 11));
    x.line(9, 5, 1, 0, 11);
    x.line(5, 2, 1, 0, 11);
    x.replan();
    CHECK.fails("ring of two", Check.STATE, () -> x.line(5, 9, 1, 0, 11));
    CHECK.fails("ring of three", Check.STATE, () -> x.line(2, 9, 1, 0, 11));
    CHECK.is("refused, not told", 0, () -> x.count(5));
    CHECK.is("refused, not there", 2, () -> x.count(0));
    CHECK.is("level as it was", 2, () -> x.level(2));
    CHECK.is("level as it was", 0, () -> x.level(9));
    CHECK.runs("a way round is no ring", () -> x.line(9, 2, 1, 0, 11));
    CHECK.is("the longer way counts", 2, () -> x.level(2));
  }

  private static void noLevelAboveFour() {
    NettedPlans x = new NettedPlans();
    x.line(11, 10, 1, 0, 11);
    x.line(10, 9, 1, 0, 11);
    x.line(8, 7, 1, 0, 11);
    x.line(7, 6, 1, 0, 11);
    CHECK.fails("joining makes level 5", Check.STATE, () -> x.line(9, 8, 1, 0, 11));
    CHECK.is("the lower part stays", 2, () -> x.level(6));
    CHECK.runs("joining makes level 4", () -> x.line(9, 7, 1, 0, 11));
    CHECK.is("lifted", 3, () -> x.level(7));
    CHECK.is("lifted below, too", 4, () -> x.level(6));
    CHECK.fails("below that", Check.STATE, () -> x.line(6, 0, 1, 0, 11));
    CHECK.fails("above that", Check.STATE, () -> x.line(0, 11, 1, 0, 11));
    CHECK.runs("beside that", () -> x.line(7, 0, 1, 0, 11));
    CHECK.is("level 4", 4, () -> x.level(0));
  }

  private static void atMost24Lines() {
    NettedPlans x = new NettedPlans();
    for (int parent = 0; parent < 4; parent++) {
      for (int child = 6; child < 12; child++) {
        x.line(parent, child, 1, 0, 11);
      }
    }
    CHECK.is("24 lines", 24, () -> x.count(0));
    x.replan();
    CHECK.fails("a 25th", Check.STATE, () -> x.line(4, 5, 1, 0, 11));
    CHECK.is("not told", 0, () -> x.count(5));
    CHECK.runs("another one in place of one", () -> x.line(3, 11, 2, 0, 11));
    CHECK.runs("none to take away", () -> x.line(4, 5, 0, 0, 11));
    CHECK.is("still 24", 24, () -> x.count(0));
    CHECK.fails("still full", Check.STATE, () -> x.line(4, 5, 1, 0, 11));
    x.line(0, 6, 0, 0, 0);
    CHECK.is("23", 23, () -> x.count(0));
    CHECK.runs("now there is room", () -> x.line(4, 5, 1, 0, 11));
    CHECK.is("24 again", 24, () -> x.count(0));
  }

  private static void fullAndRing() {
    NettedPlans x = new NettedPlans();
    Offices.FULL.tell(x);
    CHECK.is("24 lines", 24, () -> x.count(0));
    CHECK.fails("full, and a ring", Check.STATE, () -> x.line(1, 0, 1, 0, 11));
    CHECK.fails("full, and to itself", Check.STATE, () -> x.line(8, 8, 1, 0, 11));
    CHECK.fails("full, and a level too deep", Check.STATE, () -> x.line(4, 5, 1, 0, 11));
    CHECK.fails("weeks win over all that", Check.ARGUMENT, () -> x.line(4, 5, 1, 1, 0));
    CHECK.fails("items win over all that", Check.INDEX, () -> x.line(12, 5, 1, 1, 0));
    CHECK.is("nothing told", 0, () -> x.count(5));
    CHECK.runs("in place of one", () -> x.line(3, 4, 9, 0, 0));
    x.line(3, 4, 0, 0, 0);
    CHECK.fails("one less, but a ring", Check.STATE, () -> x.line(3, 0, 1, 0, 11));
    CHECK.runs("one less, and no ring", () -> x.line(0, 8, 1, 0, 11));
    CHECK.is("24 lines again", 24, () -> x.count(0));
  }

  private static void takenAwayInAnyWeeks() {
    int[][] weeks = {{0, 0}, {11, 0}, {-1, 12}, {12, -1},
      {Integer.MIN_VALUE, Integer.MAX_VALUE}, {Integer.MAX_VALUE, Integer.MIN_VALUE}};
    for (int[] span : weeks) {
      NettedPlans x = new NettedPlans();
      x.line(0, 1, 1, 3, 4);
      x.replan();
      CHECK.runs("there is one", () -> x.line(0, 1, 0, span[0], span[1]));
      CHECK.is("it is gone", 0, () -> x.count(0));
      CHECK.is("one is netted", 1, x::replan);
      CHECK.runs("there is none", () -> x.line(0, 1, 0, span[0], span[1]));
      CHECK.is("told", 1, () -> x.count(5));
      CHECK.is("one is netted", 1, x::replan);
    }
  }

  private static void refusedLineLeavesTheOneThereWas() {
    NettedPlans x = new NettedPlans();
    x.line(0, 1, 3, 2, 4);
    x.demand(0, 2, 10);
    x.demand(0, 5, 10);
    x.replan();
    CHECK.fails("per 10", Check.ARGUMENT, () -> x.line(0, 1, 10, 0, 11));
    CHECK.fails("from 12", Check.ARGUMENT, () -> x.line(0, 1, 5, 12, 12));
    CHECK.fails("from -1", Check.ARGUMENT, () -> x.line(0, 1, 5, -1, 1));
    CHECK.fails("to 12", Check.ARGUMENT, () -> x.line(0, 1, 5, 3, 12));
    CHECK.fails("from above to", Check.ARGUMENT, () -> x.line(0, 1, 5, 4, 3));
    CHECK.is("not told", 0, () -> x.count(5));
    x.stock(1, 0);
    x.replan();
    CHECK.is("3 for each, from week 2 on", 30, () -> x.gross(1, 2));
    CHECK.is("not in week 5", 0, () -> x.gross(1, 5));
    CHECK.is("one line", 1, () -> x.count(0));
  }

  private static void levels() {
    NettedPlans x = new NettedPlans();
    CHECK.fails("level of -1", Check.INDEX, () -> x.level(-1));
    CHECK.fails("level of 12", Check.INDEX, () -> x.level(12));
    x.line(2, 1, 1, 0, 11);
    x.line(1, 0, 1, 4, 4);
    x.line(2, 0, 1, 0, 11);
    CHECK.is("without a plan", 2, () -> x.level(0));
    CHECK.is("without a parent", 0, () -> x.level(2));
    x.line(2, 1, 0, 0, 0);
    CHECK.is("lowered", 1, () -> x.level(0));
    CHECK.is("lowered to none", 0, () -> x.level(1));
    x.line(1, 0, 0, 0, 0);
    CHECK.is("by the parent left", 1, () -> x.level(0));
  }
}
