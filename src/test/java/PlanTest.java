/** Promises 10 and 12 to 14: replan, gross, planned, balance. */
public final class PlanTest {
  private static final Check CHECK = new Check();

  public static void main(String[] args) {
    ruleZero();
    needIsNotUndoneByLaterOrders();
    ordersServe();
    ruleOne();
    ruleTwo();
    ruleThree();
    ruleThreeTakesTheLeastWeek();
    ruleThreeAcrossGaps();
    ruleThreeBehindTheLead();
    scrapIsRoundedForEachReceipt();
    levelsComeBeforeNumbers();
    leadTimesAddUp();
    largeQuantities();
    netted();
    nettedByGrossAlone();
    plansAreAskedWithCare();
    CHECK.end();
  }

  private static void rows(String name, NettedPlans x, int item, long[] planned, long[] balance) {
    for (int week = 0; week < 12; week++) {
      int w = week;
      CHECK.is(name + ": planned in " + w, planned[w], () -> x.planned(item, w));
      CHECK.is(name + ": balance of " + w, balance[w], () -> x.balance(item, w));
    }
  }

  private static NettedPlans with(int rule, int size, int lead, int safety, int... weeks) {
    NettedPlans x = new NettedPlans();
    x.item(3, rule, size, lead, safety);
    for (int week = 0; week < weeks.length; week++) {
      if (weeks[week] > 0) {
        x.demand(3, week, weeks[week]);
      }
    }
    return x;
  }

  private static void ruleZero() {
    NettedPlans x = with(0, 1, 2, 5, 0, 10, 0, 0, 0, 20);
    x.stock(3, 12);
    x.replan();
    rows("rule 0", x, 3, new long[] {0, 0, 3, 0, 0, 20, 0, 0, 0, 0, 0, 0},
        new long[] {12, 2, 5, 5, 5, 5, 5, 5, 5, 5, 5, 5});
    CHECK.is("gross of week 1", 10, () -> x.gross(3, 1));
    CHECK.is("gross of week 2", 0, () -> x.gross(3, 2));
    NettedPlans size = with(0, 1000, 0, 0, 1, 2);
    size.replan();
    CHECK.is("rule 0 has no size", 2, () -> size.planned(3, 1));
  }

  private static void needIsNotUndoneByLaterOrders() {
    NettedPlans x = with(0, 1, 3, 0, 0, 10);
    x.order(3, 2, 10);
    x.replan();
    rows("need of week 1", x, 3, new long[] {0, 0, 0, 10, 0, 0, 0, 0, 0, 0, 0, 0},
        new long[] {0, -10, 0, 10, 10, 10, 10, 10, 10, 10, 10, 10});
  }

  private static void ordersServe() {
    NettedPlans x = with(0, 1, 0, 0, 0, 0, 8, 8);
    x.order(3, 2, 10);
    x.order(3, 4, 5);
    x.replan();
    rows("orders", x, 3, new long[] {0, 0, 0, 6, 0, 0, 0, 0, 0, 0, 0, 0},
        new long[] {0, 0, 2, 0, 5, 5, 5, 5, 5, 5, 5, 5});
  }

  private static void ruleOne() {
    NettedPlans x = with(1, 7, 0, 0, 0, 14, 1, 5, 2);
    x.replan();
    rows("rule 1", x, 3, new long[] {0, 14, 7, 0, 7, 0, 0, 0, 0, 0, 0, 0},
        new long[] {0, 0, 6, 1, 6, 6, 6, 6, 6, 6, 6, 6});
    NettedPlans one = with(1, 1, 0, 0, 0, 14);
    one.replan();
    CHECK.is("multiple of 1", 14, () -> one.planned(3, 1));
    NettedPlans large = with(1, 1000, 0, 0, 0, 1000, 1);
    large.replan();
    CHECK.is("multiple of 1000", 1000, () -> large.planned(3, 1));
    CHECK.is("one more multiple", 1000, () -> large.planned(3, 2));
  }

  private static void ruleTwo() {
    NettedPlans x = with(2, 3, 0, 0, 0, 5, 6, 7, 8, 0, 0, 0, 0, 0, 1, 2);
    x.replan();
    rows("rule 2", x, 3, new long[] {0, 18, 0, 0, 8, 0, 0, 0, 0, 0, 3, 0},
        new long[] {0, 13, 7, 0, 0, 0, 0, 0, 0, 0, 2, 0});
    NettedPlans one = with(2, 1, 0, 0, 0, 5, 6);
    one.replan();
    CHECK.is("period of 1", 5, () -> one.planned(3, 1));
    NettedPlans all = with(2, 1000, 1, 0, 2, 5, 6, 0, 0, 0, 0, 0, 0, 0, 0, 9);
    all.replan();
    CHECK.is("period up to the last week", 22, () -> all.planned(3, 1));
    NettedPlans last = with(2, 11, 0, 0, 0, 5, 0, 0, 0, 0, 0, 0, 0, 0, 0, 9);
    last.replan();
    CHECK.is("period to the last week just so", 14, () -> last.planned(3, 1));
    NettedPlans short1 = with(2, 10, 0, 0, 0, 5, 0, 0, 0, 0, 0, 0, 0, 0, 0, 9);
    short1.replan();
    CHECK.is("period to the week before", 5, () -> short1.planned(3, 1));
  }

  private static void ruleThree() {
    NettedPlans x = with(3, 1, 0, 0, 20, 30, 45);
    x.costs(3, 0, 50, 1);
    x.replan();
    rows("rule 3", x, 3, new long[] {50, 0, 45, 0, 0, 0, 0, 0, 0, 0, 0, 0},
        new long[] {30, 0, 0, 0, 0, 0, 0, 0, 0, 0, 0, 0});
    x.costs(3, 0, 30, 1);
    CHECK.is("costs net", 1, x::replan);
    CHECK.is("each its own: week 0", 20, () -> x.planned(3, 0));
    CHECK.is("each its own: week 1", 30, () -> x.planned(3, 1));
    x.costs(3, 0, 100000, 1);
    x.replan();
    CHECK.is("all in one", 95, () -> x.planned(3, 0));
    x.costs(3, 0, 100000, 0);
    x.replan();
    CHECK.is("holding is free", 95, () -> x.planned(3, 0));
    x.costs(3, 0, 0, 100);
    x.replan();
    CHECK.is("setting up is free", 45, () -> x.planned(3, 2));
  }

  private static void ruleThreeTakesTheLeastWeek() {
    NettedPlans x = with(3, 1, 0, 0, 20, 30, 20);
    x.costs(3, 0, 50, 1);
    x.replan();
    // 20 alone and 50 at once cost 120, as do all 70 at once
    CHECK.is("the least week of two that cost the same", 20, () -> x.planned(3, 0));
    CHECK.is("and the rest", 50, () -> x.planned(3, 1));
    x.costs(3, 0, 0, 0);
    x.replan();
    CHECK.is("all are free: the first week alone", 20, () -> x.planned(3, 0));
  }

  private static void ruleThreeAcrossGaps() {
    NettedPlans x = with(3, 1, 0, 0, 10, 0, 0, 0, 0, 10, 0, 0, 0, 0, 0, 10);
    x.costs(3, 0, 30, 1);
    x.replan();
    rows("each its own", x, 3, new long[] {10, 0, 0, 0, 0, 10, 0, 0, 0, 0, 0, 10}, new long[12]);
    x.costs(3, 0, 60, 1);
    x.replan();
    rows("two and one", x, 3, new long[] {20, 0, 0, 0, 0, 0, 0, 0, 0, 0, 0, 10},
        new long[] {10, 10, 10, 10, 10, 0, 0, 0, 0, 0, 0, 0});
    NettedPlans one = with(3, 1, 0, 0, 1, 1);
    one.costs(3, 0, 100, 1);
    one.replan();
    CHECK.is("a need of 1 in week 0", 2, () -> one.planned(3, 0));
  }

  private static void ruleThreeBehindTheLead() {
    NettedPlans x = with(3, 1, 2, 4, 3, 4, 5, 6);
    x.costs(3, 0, 10, 1);
    x.replan();
    rows("rule 3 behind the lead", x, 3, new long[] {0, 0, 22, 0, 0, 0, 0, 0, 0, 0, 0, 0},
        new long[] {-3, -7, 10, 4, 4, 4, 4, 4, 4, 4, 4, 4});
    x.costs(3, 0, 5, 1);
    x.replan();
    CHECK.is("without the last", 16, () -> x.planned(3, 2));
    CHECK.is("the last", 6, () -> x.planned(3, 3));
  }

  private static void scrapIsRoundedForEachReceipt() {
    NettedPlans x = new NettedPlans();
    x.line(0, 2, 1, 0, 11);
    x.line(1, 2, 1, 0, 11);
    x.costs(2, 100, 0, 0);
    x.demand(0, 3, 1);
    x.demand(1, 3, 1);
    x.demand(2, 3, 5);
    x.demand(0, 4, 10);
    x.replan();
    CHECK.is("1.1 and 1.1 make 4; demands have no scrap", 9, () -> x.gross(2, 3));
    CHECK.is("11 is not rounded", 11, () -> x.gross(2, 4));
  }

  private static void levelsComeBeforeNumbers() {
    NettedPlans x = new NettedPlans();
    x.line(11, 5, 2, 0, 11);
    x.line(5, 0, 2, 0, 11);
    x.line(11, 0, 1, 0, 11);
    x.demand(11, 6, 10);
    x.replan();
    CHECK.is("gross of level 1", 20, () -> x.gross(5, 6));
    CHECK.is("gross of level 2", 50, () -> x.gross(0, 6));
  }

  private static void leadTimesAddUp() {
    NettedPlans x = new NettedPlans();
    x.item(0, 0, 1, 4, 0);
    x.item(1, 0, 1, 3, 0);
    x.line(0, 1, 1, 0, 11);
    x.line(1, 2, 1, 0, 11);
    x.demand(0, 11, 5);
    x.replan();
    CHECK.is("starts in week 7", 5, () -> x.gross(1, 7));
    CHECK.is("starts in week 4", 5, () -> x.gross(2, 4));
    x.item(0, 0, 1, 0, 0);
    CHECK.is("the parent is told, and two see another gross", 3, x::replan);
    CHECK.is("starts in week 11", 5, () -> x.gross(1, 11));
    CHECK.is("not in week 7", 0, () -> x.gross(1, 7));
  }

  private static void largeQuantities() {
    NettedPlans x = new NettedPlans();
    int[][] lines = {{0, 1}, {0, 2}, {0, 3}, {1, 4}, {1, 5}, {1, 6}, {2, 4}, {2, 5}, {2, 6}, {3, 4},
      {3, 5}, {3, 6}, {4, 7}, {4, 8}, {5, 7}, {5, 8}, {6, 7}, {6, 8}, {7, 9}, {8, 9}};
    for (int[] line : lines) {
      x.line(line[0], line[1], 9, 0, 11);
      x.costs(line[1], 200, 0, 0);
    }
    for (int k = 0; k < 24; k++) {
      x.demand(0, 0, 1000);
    }
    x.made(9, 0, 9);
    x.replan();
    CHECK.is("large gross", 5877312308L, () -> x.gross(9, 0));
    CHECK.is("large receipt", 5877312308L, () -> x.planned(9, 0));
    CHECK.is("large load", 52895810772L, () -> x.load(0, 0));
    x.item(9, 0, 1, 1, 0);
    x.replan();
    CHECK.is("large balance", -5877312308L, () -> x.balance(9, 0));
  }

  private static void netted() {
    NettedPlans x = new NettedPlans();
    CHECK.is("at first all", 12, x::replan);
    CHECK.is("then none", 0, x::replan);
    x.line(0, 1, 1, 0, 11);
    x.line(1, 2, 1, 0, 11);
    x.demand(0, 5, 10);
    CHECK.is("a demand at the top, and two lines", 3, x::replan);
    x.change(0, 0, 11);
    CHECK.is("what is below sees another gross", 3, x::replan);
    x.change(0, 0, 11);
    CHECK.is("what is below sees the same", 1, x::replan);
    x.stock(1, 4);
    CHECK.is("not above, but below", 2, x::replan);
    x.stock(0, 11);
    CHECK.is("none is made at all", 3, x::replan);
    x.stock(0, 12);
    CHECK.is("still none is made", 1, x::replan);
    x.order(2, 0, 1);
    CHECK.is("an order at the bottom", 1, x::replan);
    x.item(0, 0, 1, 0, 0);
    x.costs(1, 0, 0, 0);
    x.line(5, 2, 0, 0, 0);
    x.stock(7, 0);
    CHECK.is("told as they were", 4, x::replan);
    CHECK.fails("a refused one", Check.ARGUMENT, () -> x.stock(7, -1));
    CHECK.is("is not netted", 0, x::replan);
  }

  private static void nettedByGrossAlone() {
    NettedPlans x = new NettedPlans();
    x.item(1, 1, 100, 0, 0);
    x.line(0, 1, 1, 0, 11);
    x.line(1, 2, 1, 0, 11);
    x.demand(0, 5, 10);
    x.replan();
    x.change(0, 0, 20);
    CHECK.is("the same lot serves: the lowest is not netted", 2, x::replan);
    CHECK.is("balance of the netted one", 80, () -> x.balance(1, 5));
    x.line(0, 1, 1, 0, 4);
    CHECK.is("another level or gross below", 2, x::replan);
    CHECK.is("nothing is asked", 0, () -> x.gross(2, 5));
    // a level moves, but no quantity
    x.line(3, 0, 1, 0, 11);
    CHECK.is("levels alone net nothing", 1, x::replan);
    CHECK.is("level moved", 3, () -> x.level(2));
    x.change(0, 0, 0);
    x.line(0, 1, 1, 0, 11);
    x.demand(0, 0, 10);
    x.replan();
    x.change(0, 1, 11);
    CHECK.is("another gross in week 0 alone", 2, x::replan);
    x.demand(0, 11, 0);
    x.replan();
    x.change(0, 2, 1);
    CHECK.is("another gross in week 11 alone", 2, x::replan);
  }

  private static void plansAreAskedWithCare() {
    NettedPlans x = new NettedPlans();
    x.stock(0, 3);
    x.replan();
    for (int round = 0; round < 2; round++) {
      CHECK.fails("gross of -1", Check.INDEX, () -> x.gross(-1, 0));
      CHECK.fails("gross of 12", Check.INDEX, () -> x.gross(12, 0));
      CHECK.fails("gross in -1", Check.INDEX, () -> x.gross(0, -1));
      CHECK.fails("gross in 12", Check.INDEX, () -> x.gross(0, 12));
      CHECK.fails("planned of -1", Check.INDEX, () -> x.planned(-1, 0));
      CHECK.fails("planned of 12", Check.INDEX, () -> x.planned(12, 0));
      CHECK.fails("planned in -1", Check.INDEX, () -> x.planned(0, -1));
      CHECK.fails("planned in 12", Check.INDEX, () -> x.planned(0, 12));
      CHECK.fails("balance of -1", Check.INDEX, () -> x.balance(-1, 0));
      CHECK.fails("balance of 12", Check.INDEX, () -> x.balance(12, 0));
      CHECK.fails("balance in -1", Check.INDEX, () -> x.balance(0, -1));
      CHECK.fails("balance in 12", Check.INDEX, () -> x.balance(0, 12));
      // in the second round the index must win over the state
      x.stock(11, 0);
    }
    CHECK.fails("gross", Check.STATE, () -> x.gross(0, 0));
    CHECK.fails("planned", Check.STATE, () -> x.planned(0, 0));
    CHECK.fails("balance", Check.STATE, () -> x.balance(0, 0));
    x.replan();
    CHECK.is("balance again", 3, () -> x.balance(0, 11));
  }
}
