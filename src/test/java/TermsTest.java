/** The boundary cases that the document names in "Terms", in its order. */
public final class TermsTest {
  private static final Check CHECK = new Check();

  public static void main(String[] args) {
    edgesOfItemsWeeksAndCentres();
    allIsZeroAtFirst();
    lineCountsInItsFirstAndLastWeek();
    oneLineFromAParentToAChild();
    levelIsOneMoreThanTheGreatest();
    ringsOfAllLengths();
    levelFourIsTheTop();
    numberedFromZeroAtMost24();
    orderBringsInItsWeek();
    grossIsRoundedUp();
    grossOfTheEdgeWeeks();
    needIsZeroAtLeast();
    needIsTheGreatestOfAllWeeksBefore();
    needBeforeTheLeadIsZero();
    needNotAboveGot();
    ruleOneAtMultiples();
    ruleTwoEndsInTheLastWeek();
    ruleThreeInTheLastWeek();
    ruleThreeAtEvenCosts();
    ruleThreeBehindEvenNeeds();
    balanceBeforeTheLead();
    nettedAlsoIfToldAsItWas();
    nettedIfGrossIsAnotherOne();
    pegsAtTheEdgesOfSupplies();
    pegsOfOneWeek();
    pegsOfManyOfOneWeek();
    pegsOfNothing();
    trueAtTheEdge();
    trueForAllWeeksBehind();
    freeCountsReservationsUpToTheWeek();
    loadOfTheEdgeWeeks();
    planIsAskedForBeforeAndAfter();
    fiveHundredAndTwelveCalls();
    CHECK.end();
  }

  private static void is(String sentence, long due, Check.Ask ask) {
    CHECK.is(sentence, due, ask);
  }

  /** Item 3 with the data told and a demand a week, of each quantity above 0. */
  private static NettedPlans with(int rule, int size, int lead, int safety, int... quantities) {
    NettedPlans x = new NettedPlans();
    x.item(3, rule, size, lead, safety);
    for (int week = 0; week < quantities.length; week++) {
      if (quantities[week] > 0) {
        x.demand(3, week, quantities[week]);
      }
    }
    return x;
  }

  private static void planned(String sentence, NettedPlans x, int item, long... due) {
    for (int week = 0; week < 12; week++) {
      int w = week;
      is(sentence + " (planned in " + w + ")", w < due.length ? due[w] : 0,
          () -> x.planned(item, w));
    }
  }

  private static void balance(String sentence, NettedPlans x, int item, long... due) {
    for (int week = 0; week < 12; week++) {
      int w = week;
      is(sentence + " (balance of " + w + ")", due[Math.min(w, due.length - 1)],
          () -> x.balance(item, w));
    }
  }

  // "ITEMS are 0 .. 11, WEEKS 0 .. 11 (0 is this one), CENTRES 0 .. 2."
  private static void edgesOfItemsWeeksAndCentres() {
    for (int edge = 0; edge <= 11; edge += 11) {
      int i = edge;
      NettedPlans x = new NettedPlans();
      CHECK.runs("item " + i, () -> x.item(i, 0, 1, 0, 0));
      CHECK.runs("costs of item " + i, () -> x.costs(i, 0, 0, 0));
      CHECK.runs("centre 0 of item " + i, () -> x.made(i, 0, 1));
      CHECK.runs("centre 2 of item " + i, () -> x.made(i, 2, 1));
      CHECK.runs("line from item " + i, () -> x.line(i, 5, 1, i, i));
      CHECK.runs("line to item " + i, () -> x.line(6, i, 1, i, i));
      is("stock of item " + i, 0, () -> x.stock(i, 1));
      is("demand of item and week " + i, 0, () -> x.demand(i, i, 3));
      is("order of item and week " + i, 0, () -> x.order(i, i, 1));
      is("replan", 12, x::replan);
      is("level of item " + i, 1, () -> x.level(i));
      is("gross of item and week " + i, 3, () -> x.gross(i, i));
      is("planned of item and week " + i, 1, () -> x.planned(i, i));
      is("balance of item and week " + i, 0, () -> x.balance(i, i));
      is("peg of week " + i, 1, () -> x.peg(0, 2, i));
      is("promise of item and week " + i, -1, () -> x.promise(i, 1, i));
      is("reserve of item and week " + i, -1, () -> x.reserve(i, 1, i));
      is("load of centre 2, week " + i, 1, () -> x.load(2, i));
      is("load of centre 0, week " + i, 0, () -> x.load(0, i));
    }
  }

  // "An item has a RULE, a SIZE, ..: all 0 at first, but SIZE 1."
  private static void allIsZeroAtFirst() {
    for (int item = 0; item < 12; item++) {
      int i = item;
      NettedPlans x = new NettedPlans();
      x.demand(i, 0, 3);
      x.demand(i, 1, 4);
      x.line(i == 0 ? 1 : 0, i, 1, 0, 11);
      x.demand(i == 0 ? 1 : 0, 2, 1000);
      x.replan();
      planned("rule 0, no lead, safety, stock of " + i, x, i, 3, 4, 1000);
      is("no scrap of " + i, 1000, () -> x.gross(i, 2));
      is("no hours of " + i, 0, () -> x.load(0, 0));
      x.item(i, 3, 1, 0, 0);
      x.replan();
      planned("no setup of " + i, x, i, 3, 4, 1000);
      x.costs(i, 0, 0, 0);
      is("costs told as they were of " + i, 1, x::replan);
      planned("nor by costs of 0", x, i, 3, 4, 1000);
    }
  }

  // "A LINE says that one of its PARENT takes PER of its CHILD, when the parent's making starts in
  // its weeks."
  private static void lineCountsInItsFirstAndLastWeek() {
    int[][] spans = {{0, 0}, {11, 11}, {0, 11}, {4, 6}, {5, 5}};
    for (int[] span : spans) {
      NettedPlans x = new NettedPlans();
      x.line(2, 3, 2, span[0], span[1]);
      for (int week = 0; week < 12; week++) {
        x.demand(2, week, 1 + week);
      }
      x.replan();
      for (int week = 0; week < 12; week++) {
        int w = week;
        is("line of " + span[0] + " to " + span[1] + ", week " + w,
            w >= span[0] && w <= span[1] ? 2 + 2 * w : 0, () -> x.gross(3, w));
      }
    }
  }

  // "There is one line from a parent to a child at most."
  private static void oneLineFromAParentToAChild() {
    NettedPlans x = new NettedPlans();
    x.line(2, 3, 9, 0, 5);
    x.line(2, 3, 4, 6, 11);
    x.demand(2, 5, 10);
    x.demand(2, 6, 10);
    x.replan();
    is("one line", 1, () -> x.count(0));
    is("the first one is gone", 0, () -> x.gross(3, 5));
    is("the second one is there", 40, () -> x.gross(3, 6));
  }

  // "An item's LEVEL is 0 without parents, else one more than the greatest of its parents' levels"
  private static void levelIsOneMoreThanTheGreatest() {
    NettedPlans x = new NettedPlans();
    x.line(0, 9, 1, 0, 11);
    x.line(1, 2, 1, 0, 11);
    x.line(2, 9, 1, 0, 11);
    is("parents of levels 0 and 1", 2, () -> x.level(9));
    x.line(0, 2, 1, 0, 11);
    is("another parent of level 0", 2, () -> x.level(9));
    x.line(10, 1, 1, 0, 11);
    is("the parent's parent is lower now", 3, () -> x.level(9));
    x.line(2, 9, 0, 0, 11);
    is("the greatest is gone", 1, () -> x.level(9));
    x.line(0, 9, 0, 0, 11);
    is("without parents", 0, () -> x.level(9));
    is("a parent alone", 0, () -> x.level(10));
  }

  // "no line may lead in a ring"
  private static void ringsOfAllLengths() {
    for (int step = -1; step <= 1; step += 2) {
      for (int length = 1; length <= 5; length++) {
        NettedPlans x = new NettedPlans();
        int first = step > 0 ? 0 : 11;
        int last = first + step * (length - 1);
        for (int k = 0; k < length - 1; k++) {
          x.line(first + step * k, first + step * (k + 1), 1, 0, 11);
        }
        x.replan();
        CHECK.fails("ring of " + length, Check.STATE, () -> x.line(last, first, 1, 0, 11));
        int lines = length - 1;
        is("lines", lines, () -> x.count(0));
        is("level of the first", 0, () -> x.level(first));
        is("level of the last", lines, () -> x.level(last));
        is("nothing told", 0, () -> x.count(5));
        is("the last may be told to have none", 0, () -> {
          x.line(last, first, 0, 0, 11);
          return x.level(first);
        });
      }
    }
  }

  // "or make a level above 4"
  private static void levelFourIsTheTop() {
    NettedPlans x = new NettedPlans();
    for (int k = 0; k < 4; k++) {
      int parent = 10 - k;
      CHECK.runs("level " + (k + 1), () -> x.line(parent, parent - 1, 1, 0, 11));
    }
    is("level 4", 4, () -> x.level(6));
    CHECK.fails("a level below", Check.STATE, () -> x.line(6, 5, 1, 0, 11));
    CHECK.fails("a level above", Check.STATE, () -> x.line(11, 10, 1, 0, 11));
    CHECK.runs("another line in place of one", () -> x.line(7, 6, 9, 3, 4));
    CHECK.runs("a line in the midst", () -> x.line(10, 6, 1, 0, 11));
    CHECK.runs("a second parent of level 3", () -> x.line(7, 5, 1, 0, 11));
    is("level 4, too", 4, () -> x.level(5));
    x.line(10, 9, 0, 0, 0);
    is("a level less", 3, () -> x.level(5));
    CHECK.runs("now there is room below", () -> x.line(6, 0, 1, 0, 11));
    CHECK.fails("but not above as well", Check.STATE, () -> x.line(10, 9, 1, 0, 11));
    CHECK.fails("nor two more below", Check.STATE, () -> x.line(0, 1, 1, 0, 11));
  }

  // "demands, orders and reservations are numbered from 0 on, at most 24 of each"
  private static void numberedFromZeroAtMost24() {
    NettedPlans x = new NettedPlans();
    x.stock(4, 1000);
    for (int k = 0; k < 24; k++) {
      int number = k;
      is("demand " + k, number, () -> x.demand(4, 11, 1));
      is("order " + k, number, () -> x.order(5, 11, 1));
    }
    x.replan();
    for (int k = 0; k < 24; k++) {
      int number = k;
      is("reservation " + k, number, () -> x.reserve(4, 1, 0));
    }
    is("24 demands", 24, () -> x.count(1));
    is("24 orders", 24, () -> x.count(2));
    is("24 reservations", 24, () -> x.count(3));
    CHECK.fails("no 25th demand", Check.STATE, () -> x.demand(0, 0, 1));
    CHECK.fails("no 25th order", Check.STATE, () -> x.order(0, 0, 1));
    CHECK.fails("no 25th reservation", Check.STATE, () -> x.reserve(4, 1, 0));
    CHECK.fails("no demand 24", Check.INDEX, () -> x.change(0, 24, 1));
    CHECK.fails("no order 24", Check.INDEX, () -> x.change(1, 24, 1));
    CHECK.fails("no reservation 24", Check.INDEX, () -> x.giveBack(24));
    is("demand 23", 1, () -> x.change(0, 23, 1));
    is("order 23", 1, () -> x.change(1, 23, 1));
    is("reservation 23", 1, () -> x.giveBack(23));
  }

  // "An order brings its quantity in its week."
  private static void orderBringsInItsWeek() {
    NettedPlans x = new NettedPlans();
    x.order(3, 0, 1000);
    x.order(3, 11, 1);
    x.order(3, 5, 0);
    x.replan();
    balance("orders", x, 3, 1000, 1000, 1000, 1000, 1000, 1000, 1000, 1000, 1000, 1000, 1000, 1001);
  }

  // "q * PER * (1000 + SCRAP of the child) / 1000, rounded up"
  private static void grossIsRoundedUp() {
    int[][] due = {
      // scrap, per, q, gross
      {0, 1, 7, 7}, {0, 9, 1000, 9000}, {1, 1, 1, 2}, {1, 1, 999, 1000}, {1, 1, 1000, 1001},
      {1, 9, 111, 1000}, {1, 2, 500, 1001}, {200, 1, 5, 6}, {200, 1, 4, 5}, {200, 1, 6, 8},
      {200, 9, 1000, 10800}, {50, 1, 10, 11}, {50, 1, 20, 21}, {50, 1, 21, 23}, {50, 1, 0, 0},
      {199, 1, 1, 2}, {199, 5, 200, 1199}
    };
    for (int[] row : due) {
      NettedPlans x = new NettedPlans();
      x.costs(1, row[0], 0, 0);
      x.line(0, 1, row[1], 0, 11);
      x.demand(0, 6, row[2]);
      x.replan();
      is(row[2] + " * " + row[1] + " with scrap " + row[0], row[3], () -> x.gross(1, 6));
    }
    NettedPlans x = new NettedPlans();
    x.costs(1, 200, 0, 0);
    x.line(0, 1, 1, 0, 11);
    x.line(2, 1, 1, 0, 11);
    x.demand(0, 6, 1);
    x.demand(2, 6, 1);
    x.demand(1, 6, 1);
    x.demand(0, 7, 1);
    x.replan();
    is("each line is rounded by itself, a demand has no scrap", 5, () -> x.gross(1, 6));
    is("each week is rounded by itself", 2, () -> x.gross(1, 7));
  }

  // "if r less the parent's lead time is w, and w is one of the line's weeks"
  private static void grossOfTheEdgeWeeks() {
    NettedPlans x = new NettedPlans();
    x.item(0, 0, 1, 4, 0);
    x.line(0, 1, 1, 0, 0);
    x.line(0, 2, 1, 7, 7);
    x.line(0, 4, 1, 8, 11);
    x.line(0, 5, 1, 1, 6);
    x.demand(0, 0, 5);
    x.demand(0, 11, 6);
    x.replan();
    is("what comes in week 4 starts in week 0", 5, () -> x.gross(1, 0));
    is("what comes in week 11 starts in week 7", 6, () -> x.gross(2, 7));
    for (int week = 0; week < 12; week++) {
      int w = week;
      is("nothing starts in weeks 8 to 11", 0, () -> x.gross(4, w));
      is("nothing starts in weeks 1 to 6", 0, () -> x.gross(5, w));
    }
  }

  // "NEED(w) .. is the greatest of SAFETY - BARE(v) .., but 0 at least"
  private static void needIsZeroAtLeast() {
    NettedPlans x = with(0, 1, 0, 5, 0, 95, 1);
    x.stock(3, 100);
    x.replan();
    planned("100 less 95 is safe, 1 more is not", x, 3, 0, 0, 1);
    balance("never below safety", x, 3, 100, 5, 5);
    x.stock(3, 101);
    x.replan();
    planned("just enough", x, 3);
    x.stock(3, 10_000);
    x.replan();
    planned("far too much", x, 3);
    balance("far too much", x, 3, 10_000, 9905, 9904);
    for (int rule = 1; rule <= 3; rule++) {
      x.item(3, rule, 4, 0, 5);
      x.replan();
      planned("far too much, rule " + rule, x, 3);
    }
  }

  // ".. for weeks v from 0 to w"
  private static void needIsTheGreatestOfAllWeeksBefore() {
    NettedPlans x = with(0, 1, 2, 0, 10, 0, 0, 4);
    x.order(3, 1, 10);
    x.order(3, 2, 3);
    x.replan();
    planned("week 0 is short, and orders come too late", x, 3, 0, 0, 10);
    balance("so there is more than is asked for", x, 3, -10, 0, 13, 9);
    x.item(3, 0, 1, 0, 0);
    x.replan();
    planned("without lead", x, 3, 10);
    x.demand(3, 4, 10);
    x.replan();
    planned("less is missing later", x, 3, 10, 0, 0, 0, 1);
  }

  // "NEED(w), for weeks from the LEAD on .. (before, it is 0)"
  private static void needBeforeTheLeadIsZero() {
    for (int lead = 0; lead <= 4; lead++) {
      for (int rule = 0; rule <= 3; rule++) {
        NettedPlans x = with(rule, 1, lead, 2, 1, 1, 1, 1, 1, 1);
        x.replan();
        long[] due = new long[12];
        for (int week = 0; week < 6; week++) {
          due[Math.max(week, lead)] += week == 0 ? 3 : 1;
        }
        planned("lead " + lead + ", rule " + rule, x, 3, due);
      }
    }
  }

  // "when NEED(w) is above GOT(w - 1)"
  private static void needNotAboveGot() {
    NettedPlans x = with(1, 5, 0, 0, 3, 2, 1, 4, 5);
    x.replan();
    planned("5 serve 3 and 2, 5 serve 1 and 4, 5 serve 5", x, 3, 5, 0, 5, 0, 5);
    balance("even at last", x, 3, 2, 0, 4, 0, 0);
  }

  // "Rule 1: the least multiple of SIZE that is at least n."
  private static void ruleOneAtMultiples() {
    int[][] due = {{1, 1, 1}, {1, 1000, 1000}, {1000, 1, 1000}, {1000, 999, 1000},
      {1000, 1000, 1000}, {999, 1000, 1998}, {7, 6, 7}, {7, 7, 7}, {7, 8, 14}, {2, 1, 2}, {2, 3, 4}};
    for (int[] row : due) {
      NettedPlans x = with(1, row[0], 0, 0, row[1]);
      x.replan();
      planned("size " + row[0] + " for " + row[1], x, 3, row[2]);
      NettedPlans late = with(1, row[0], 4, 0, 0, 0, 0, 0, row[1]);
      late.replan();
      planned("size " + row[0] + " for " + row[1], late, 3, 0, 0, 0, 0, row[2]);
    }
    NettedPlans none = with(1, 1000, 0, 0, 0);
    none.replan();
    planned("no lot for none", none, 3);
  }

  // "Rule 2: NEED(v) - GOT(w - 1), v being w + SIZE - 1, or the last week."
  private static void ruleTwoEndsInTheLastWeek() {
    for (int size : new int[] {1, 2, 3, 4, 10, 11, 12, 13, 999, 1000}) {
      NettedPlans x = with(2, size, 0, 0, 1, 2, 4, 8, 16, 32, 64, 128, 256, 512, 1000, 1000);
      x.replan();
      long[] asked = {1, 2, 4, 8, 16, 32, 64, 128, 256, 512, 1000, 1000};
      long[] due = new long[12];
      for (int week = 0; week < 12; week++) {
        due[week / size * size] += asked[week];
      }
      planned("size " + size, x, 3, due);
    }
    NettedPlans last = with(2, 1000, 0, 0, 0, 0, 0, 0, 0, 0, 0, 0, 0, 0, 0, 7);
    last.replan();
    planned("from the last week on", last, 3, 0, 0, 0, 0, 0, 0, 0, 0, 0, 0, 0, 7);
    NettedPlans lead = with(2, 3, 4, 0, 1, 2, 4, 8, 16, 32, 64, 128);
    lead.replan();
    planned("counted from the lead on", lead, 3, 0, 0, 0, 0, 127, 0, 0, 128);
  }

  // "BEST(w) is .. 0 for w = 12"
  private static void ruleThreeInTheLastWeek() {
    NettedPlans x = with(3, 1, 0, 0, 0, 0, 0, 0, 0, 0, 0, 0, 0, 0, 6, 7);
    x.costs(3, 0, 7, 1);
    x.replan();
    planned("two lots cost 14, one as much", x, 3, 0, 0, 0, 0, 0, 0, 0, 0, 0, 0, 6, 7);
    x.costs(3, 0, 8, 1);
    x.replan();
    planned("two lots cost 16, one 15", x, 3, 0, 0, 0, 0, 0, 0, 0, 0, 0, 0, 13);
    x.change(0, 0, 0);
    x.replan();
    planned("the last week alone", x, 3, 0, 0, 0, 0, 0, 0, 0, 0, 0, 0, 0, 7);
  }

  // "j is the least week from w on for which COST(w, j) + BEST(j + 1) is least"
  private static void ruleThreeAtEvenCosts() {
    NettedPlans x = with(3, 1, 0, 0, 1, 1000);
    x.costs(3, 0, 100_000, 100);
    x.replan();
    planned("the most setup is as dear as the most hold", x, 3, 1, 1000);
    x.costs(3, 0, 100_000, 99);
    x.replan();
    planned("a hold less", x, 3, 1001);
    x.costs(3, 0, 99_999, 100);
    x.replan();
    planned("a setup less", x, 3, 1, 1000);
    x.change(0, 1, 999);
    x.costs(3, 0, 100_000, 100);
    x.replan();
    planned("one less", x, 3, 1000);
    x.costs(3, 0, 0, 0);
    x.replan();
    planned("all is free", x, 3, 1, 999);
    x.costs(3, 0, 1, 0);
    x.replan();
    planned("only setup is not free", x, 3, 1000);
    NettedPlans three = with(3, 1, 0, 0, 1, 2, 1);
    three.costs(3, 0, 2, 1);
    three.replan();
    // 1 and 3: 2 + 2 + 1; 3 and 1: 2 + 2 + 2; 4: 2 + 2 + 2; 1, 2 and 1: 6
    planned("the best of four ways", three, 3, 1, 3);
  }

  // "but BEST(w + 1) if NEED(w) is NEED(w - 1) (0 before the LEAD)"
  private static void ruleThreeBehindEvenNeeds() {
    NettedPlans x = with(3, 1, 0, 0, 1, 0, 0, 0, 1, 0, 0, 0, 1);
    x.costs(3, 0, 5, 1);
    x.replan();
    // 2 and 1 or 1 and 2 cost 5 + 4 + 5: the first lot takes the least week
    planned("4 weeks of holding are cheaper than a setup", x, 3, 1, 0, 0, 0, 2);
    x.costs(3, 0, 4, 1);
    x.replan();
    planned("as dear", x, 3, 1, 0, 0, 0, 1, 0, 0, 0, 1);
    x.costs(3, 0, 12, 1);
    x.replan();
    // all in one: 12 + 4 + 8; two lots: 12 + 4 + 12
    planned("8 weeks, too", x, 3, 3);
    NettedPlans lead = with(3, 1, 4, 0, 1, 0, 0, 0, 0, 1);
    lead.costs(3, 0, 1, 1);
    lead.replan();
    planned("a need from before the lead", lead, 3, 0, 0, 0, 0, 1, 1);
    lead.costs(3, 0, 2, 1);
    lead.replan();
    planned("held from the lead on", lead, 3, 0, 0, 0, 0, 2);
  }

  // "BALANCE(w) is BARE(w) + GOT(w)."
  private static void balanceBeforeTheLead() {
    NettedPlans x = with(0, 1, 4, 1000, 1000, 1000, 1000, 1000, 1000);
    x.replan();
    balance("no receipt before the lead", x, 3, -1000, -2000, -3000, -4000, 1000);
    x.stock(3, 10_000);
    x.replan();
    balance("from stock", x, 3, 9000, 8000, 7000, 6000, 5000);
  }

  // "An item is NETTED in it if something was told about it since the last one (..; also if it was
  // told as it was)"
  private static void nettedAlsoIfToldAsItWas() {
    NettedPlans x = new NettedPlans();
    Offices.PLANNED.tell(x);
    is("nothing was told", 0, x::replan);
    tellAsItWas(x, "item", () -> x.item(1, 1, 50, 1, 0));
    tellAsItWas(x, "costs", () -> x.costs(1, 100, 0, 0));
    tellAsItWas(x, "stock", () -> x.stock(1, 30));
    tellAsItWas(x, "a line to it", () -> x.line(0, 1, 3, 0, 11));
    tellAsItWas(x, "no line to it", () -> x.line(7, 1, 0, 0, 11));
    tellAsItWas(x, "a demand of it", () -> x.change(0, 2, 7));
    tellAsItWas(x, "a demand of none", () -> x.demand(1, 11, 0));
    tellAsItWas(x, "an order of it", () -> x.change(1, 0, 25));
    tellAsItWas(x, "an order of none", () -> x.order(1, 11, 0));
    x.made(1, 2, 4);
    is("not by made", 0, x::replan);
    x.reserve(1, 1, 11);
    is("not by reserve", 0, x::replan);
    x.giveBack(3);
    is("not by giveBack", 0, x::replan);
    x.line(1, 2, 2, 1, 9);
    x.line(1, 2, 2, 1, 9);
    is("a line from it is told of the child, and once", 1, x::replan);
    for (int i = 0; i < 12; i++) {
      x.stock(i, x.stock(i, 1));
    }
    is("all of them", 12, x::replan);
  }

  private static void tellAsItWas(NettedPlans x, String name, Check.Tell tell) {
    tell.run();
    is("told: " + name, 1, () -> x.count(5));
    is("netted: " + name, 1, x::replan);
    is("not netted again: " + name, 0, x::replan);
  }

  // "or if GROSS of some week is another one than before"
  private static void nettedIfGrossIsAnotherOne() {
    for (int week = 0; week < 12; week++) {
      NettedPlans x = new NettedPlans();
      x.line(0, 1, 1, 0, 11);
      x.demand(0, week, 5);
      x.replan();
      x.change(0, 0, 6);
      is("another gross in week " + week, 2, x::replan);
      x.change(0, 0, 6);
      is("the same gross in week " + week, 1, x::replan);
      x.stock(0, 6);
      is("none in week " + week, 2, x::replan);
      x.stock(0, 7);
      is("still none in week " + week, 1, x::replan);
    }
    NettedPlans x = new NettedPlans();
    x.line(0, 1, 1, 0, 11);
    x.demand(0, 4, 5);
    x.demand(1, 6, 5);
    x.replan();
    x.change(0, 0, 0);
    x.change(0, 1, 5);
    x.demand(1, 4, 5);
    is("told, though gross is the same", 2, x::replan);
    is("the same gross", 5, () -> x.gross(1, 4));
    x.item(0, 0, 1, 1, 0);
    is("another lead of a parent without receipts", 1, x::replan);
    x.change(0, 0, 5);
    x.replan();
    x.item(0, 0, 1, 2, 0);
    is("another lead of a parent with a receipt", 2, x::replan);
  }

  // "Claims take supplies in their order: the first units to the first claim."
  private static void pegsAtTheEdgesOfSupplies() {
    NettedPlans x = with(0, 1, 0, 0, 10, 10, 10);
    x.stock(3, 10);
    x.order(3, 0, 10);
    x.replan();
    pegs(x, 0, 10, new long[] {0}, 0, 0);
    pegs(x, 1, 0, new long[] {10}, 0, 0);
    pegs(x, 2, 0, new long[] {0}, 2, 10);
    x.stock(3, 11);
    x.replan();
    pegs(x, 0, 10, new long[] {0}, 0, 0);
    pegs(x, 1, 1, new long[] {9}, 0, 0);
    pegs(x, 2, 0, new long[] {1}, 2, 9);
    x.stock(3, 9);
    x.replan();
    pegs(x, 0, 9, new long[] {1}, 0, 0);
    pegs(x, 1, 0, new long[] {9}, 1, 1);
    pegs(x, 2, 0, new long[] {0}, 2, 10);
    x.stock(3, 10_000);
    x.replan();
    pegs(x, 2, 10, new long[] {0}, 2, 0);
  }

  /** What of a demand comes from stock, from each order and from one week's receipt. */
  private static void pegs(
      NettedPlans x, int demand, long stock, long[] orders, int week, long receipt) {
    is("stock for demand " + demand, stock, () -> x.peg(demand, 0, 0));
    for (int order = 0; order < orders.length; order++) {
      int o = order;
      is("order " + o + " for demand " + demand, orders[o], () -> x.peg(demand, 1, o));
    }
    for (int w = 0; w < 12; w++) {
      int v = w;
      is("week " + v + " for demand " + demand, v == week ? receipt : 0,
          () -> x.peg(demand, 2, v));
    }
  }

  // "its orders, by weeks, then by numbers; but of one week, planned receipts behind the orders"
  // "Its CLAIMS are, by weeks: its demands by numbers; then what lines to it ask for"
  private static void pegsOfOneWeek() {
    NettedPlans x = new NettedPlans();
    x.line(0, 3, 1, 0, 11);
    x.demand(0, 11, 4);
    x.demand(3, 11, 3);
    x.demand(3, 11, 2);
    x.demand(0, 10, 1);
    x.order(3, 11, 1);
    x.order(3, 11, 3);
    x.order(3, 10, 2);
    x.replan();
    // supplies: order 2 of 2 in week 10; orders 0 of 1 and 1 of 3, and 4 planned in week 11
    // claims: 1 for a line in week 10; demands 1 of 3 and 2 of 2, and 4 for a line in week 11
    is("planned", 4, () -> x.planned(3, 11));
    pegs(x, 1, 0, new long[] {1, 1, 1}, 11, 0);
    pegs(x, 2, 0, new long[] {0, 2, 0}, 11, 0);
    pegs(x, 0, 0, new long[] {0, 0, 0}, 11, 4);
    x.change(1, 1, 1);
    x.replan();
    pegs(x, 1, 0, new long[] {1, 1, 1}, 11, 0);
    pegs(x, 2, 0, new long[] {0, 0, 0}, 11, 2);
    x.change(0, 3, 0);
    x.replan();
    pegs(x, 1, 0, new long[] {1, 0, 2}, 11, 0);
    pegs(x, 2, 0, new long[] {0, 1, 0}, 11, 1);
  }

  private static void pegsOfManyOfOneWeek() {
    NettedPlans x = new NettedPlans();
    for (int k = 0; k < 4; k++) {
      x.demand(3, 6, 1 + k);
      x.demand(4, 6, 100);
      x.order(3, 6, 2);
      x.order(4, 6, 100);
    }
    x.replan();
    // units 0 to 9 are asked for; of them orders 0, 2, 4 and 6 bring 2 each, the plan the rest
    pegs(x, 0, 0, new long[] {1, 0, 0, 0, 0, 0, 0, 0}, 6, 0);
    pegs(x, 2, 0, new long[] {1, 0, 1, 0, 0, 0, 0, 0}, 6, 0);
    pegs(x, 4, 0, new long[] {0, 0, 1, 0, 2, 0, 0, 0}, 6, 0);
    pegs(x, 6, 0, new long[] {0, 0, 0, 0, 0, 0, 2, 0}, 6, 2);
    pegs(x, 7, 0, new long[] {0, 0, 0, 0, 0, 0, 0, 100}, 6, 0);
  }

  // "How much of a demand a supply serves is the PEG of both."
  private static void pegsOfNothing() {
    NettedPlans x = new NettedPlans();
    x.demand(3, 5, 0);
    x.demand(3, 5, 6);
    x.order(3, 5, 0);
    x.order(4, 5, 6);
    x.stock(4, 6);
    x.replan();
    pegs(x, 0, 0, new long[] {0, 0}, 5, 0);
    pegs(x, 1, 0, new long[] {0, 0}, 5, 6);
  }

  // "A quantity is TRUE for a week w, if FREE(v) is at least that for all weeks v from w on."
  private static void trueAtTheEdge() {
    NettedPlans x = new NettedPlans();
    x.stock(3, 999);
    x.order(3, 11, 1);
    x.replan();
    is("999 now", 0, () -> x.promise(3, 999, 0));
    is("1000 in the last week", 11, () -> x.promise(3, 1000, 0));
    is("1000 not before", -1, () -> x.reserve(3, 1000, 10));
    is("1000 then", 0, () -> x.reserve(3, 1000, 11));
    is("none is left", -1, () -> x.promise(3, 1, 0));
    is("given back", 1000, () -> x.giveBack(0));
    is("999 of them now", 1, () -> x.reserve(3, 999, 0));
    is("1 in the last week", 11, () -> x.promise(3, 1, 0));
    is("1 in the last week told", 11, () -> x.promise(3, 1, 11));
    is("not 2", -1, () -> x.promise(3, 2, 11));
    is("1 is TRUE", 2, () -> x.reserve(3, 1, 11));
    is("then none", -1, () -> x.reserve(3, 1, 11));
  }

  private static void trueForAllWeeksBehind() {
    for (int week = 0; week < 12; week++) {
      int w = week;
      NettedPlans x = new NettedPlans();
      x.stock(3, 10);
      x.demand(3, w, 10);
      x.order(3, Math.min(w + 1, 11), 10);
      x.replan();
      is("free but for week " + w, w == 11 ? 0 : w + 1, () -> x.promise(3, 10, 0));
      is("reserved in week " + w, w == 11 ? 0 : -1, () -> x.reserve(3, 10, w));
    }
    NettedPlans late = with(0, 1, 4, 0, 5);
    late.stock(3, 3);
    late.order(3, 1, 2);
    late.replan();
    // balances: -2, 0, 0, 0, 2
    is("below 0 at first", 4, () -> late.promise(3, 1, 0));
    is("no more than the receipt leaves", -1, () -> late.promise(3, 3, 0));
  }

  // "FREE(v) of an item is .., less GROSS and reservations up to v."
  private static void freeCountsReservationsUpToTheWeek() {
    NettedPlans x = new NettedPlans();
    x.stock(3, 10);
    x.order(3, 6, 10);
    x.replan();
    is("8 of week 6 on", 0, () -> x.reserve(3, 8, 6));
    is("10 before are still free", 0, () -> x.promise(3, 10, 0));
    is("12 from week 6 on", 6, () -> x.promise(3, 12, 0));
    is("not 13", -1, () -> x.promise(3, 13, 0));
    is("10 in week 5", 1, () -> x.reserve(3, 10, 5));
    is("none before week 6", 6, () -> x.promise(3, 1, 0));
    is("2 from week 6 on", 6, () -> x.promise(3, 2, 0));
    is("not 3", -1, () -> x.promise(3, 3, 0));
    is("another item has its own", -1, () -> x.promise(4, 1, 0));
  }

  // "A centre's LOAD in a week are the HOURS of all its items times the receipts planned of them
  // that start in it (their week less the LEAD)."
  private static void loadOfTheEdgeWeeks() {
    NettedPlans x = new NettedPlans();
    x.item(0, 0, 1, 4, 0);
    x.made(0, 0, 9);
    x.made(11, 0, 1);
    x.made(5, 0, 0);
    x.demand(0, 0, 1000);
    x.demand(0, 11, 2);
    x.demand(11, 0, 3);
    x.demand(11, 11, 4);
    x.demand(5, 0, 1000);
    x.replan();
    long[] due = {9003, 0, 0, 0, 0, 0, 0, 18, 0, 0, 0, 4};
    for (int week = 0; week < 12; week++) {
      int w = week;
      is("load of week " + w, due[w], () -> x.load(0, w));
      is("none of centre 1 in week " + w, 0, () -> x.load(1, w));
      is("none of centre 2 in week " + w, 0, () -> x.load(2, w));
    }
  }

  // "Those that ask for the plan throw IllegalState when something was told since the last
  // replanning (or nothing was planned yet)."
  private static void planIsAskedForBeforeAndAfter() {
    NettedPlans x = new NettedPlans();
    x.demand(3, 2, 5);
    x.order(3, 2, 1);
    planIsRefused("nothing was planned yet", x);
    is("at first all", 12, x::replan);
    planIsAnswered("planned", x);
    Check.Tell[] tells = {() -> x.item(11, 0, 1, 0, 0), () -> x.costs(11, 0, 0, 0),
      () -> x.line(10, 11, 1, 0, 11), () -> x.line(10, 11, 0, 0, 11), () -> x.stock(11, 0),
      () -> x.demand(11, 11, 0), () -> x.order(11, 11, 0), () -> x.change(0, 1, 0),
      () -> x.change(1, 1, 0)};
    for (int k = 0; k < tells.length; k++) {
      tells[k].run();
      planIsRefused("told " + k, x);
      x.made(3, 0, 1);
      planIsRefused("made does not help, " + k, x);
      is("one of them", 1, x::replan);
      planIsAnswered("planned after " + k, x);
      CHECK.fails("a refused call", Check.ARGUMENT, () -> x.stock(11, 10_001));
      planIsAnswered("still planned after " + k, x);
    }
  }

  private static void planIsRefused(String name, NettedPlans x) {
    CHECK.fails(name + ": gross", Check.STATE, () -> x.gross(3, 2));
    CHECK.fails(name + ": planned", Check.STATE, () -> x.planned(3, 2));
    CHECK.fails(name + ": balance", Check.STATE, () -> x.balance(3, 2));
    CHECK.fails(name + ": peg of stock", Check.STATE, () -> x.peg(0, 0, 0));
    CHECK.fails(name + ": peg of an order", Check.STATE, () -> x.peg(0, 1, 0));
    CHECK.fails(name + ": peg of a receipt", Check.STATE, () -> x.peg(0, 2, 2));
    CHECK.fails(name + ": promise", Check.STATE, () -> x.promise(3, 1, 2));
    CHECK.fails(name + ": reserve", Check.STATE, () -> x.reserve(3, 1, 2));
    CHECK.fails(name + ": load", Check.STATE, () -> x.load(0, 2));
    CHECK.fails(name + ": count(4)", Check.STATE, () -> x.count(4));
    is(name + ": count(5)", 1, () -> x.count(5));
    is(name + ": level needs no plan", 0, () -> x.level(3));
    is(name + ": count(3) needs no plan", 0, () -> x.count(3));
  }

  private static void planIsAnswered(String name, NettedPlans x) {
    is(name + ": gross", 5, () -> x.gross(3, 2));
    is(name + ": planned", 4, () -> x.planned(3, 2));
    is(name + ": balance", 0, () -> x.balance(3, 2));
    is(name + ": peg of stock", 0, () -> x.peg(0, 0, 0));
    is(name + ": peg of an order", 1, () -> x.peg(0, 1, 0));
    is(name + ": peg of a receipt", 4, () -> x.peg(0, 2, 2));
    is(name + ": promise", -1, () -> x.promise(3, 1, 2));
    is(name + ": reserve", -1, () -> x.reserve(3, 1, 2));
    is(name + ": count(4)", 0, () -> x.count(4));
    is(name + ": count(5)", 0, () -> x.count(5));
  }

  // "An object is used for at most 512 calls after it has been made"
  private static void fiveHundredAndTwelveCalls() {
    NettedPlans x = new NettedPlans();
    for (int k = 0; k < 127; k++) {
      int n = k;
      is("stock", Math.max(n - 1, 0), () -> x.stock(3, n));
      is("replan", n == 0 ? 12 : 1, x::replan);
      is("balance", n, () -> x.balance(3, 11));
      is("promise", n < 100 ? -1 : 7, () -> x.promise(3, 100, 7));
    }
    is("call 509", 126, () -> x.stock(3, 0));
    is("call 510", 1, x::replan);
    is("call 511", 0, () -> x.balance(3, 0));
    is("call 512", 0, () -> x.count(5));
  }
}
