/** Promise 15: peg. */
public final class PegsTest {
  private static final Check CHECK = new Check();

  public static void main(String[] args) {
    suppliesInTheirOrder();
    ordersBetweenReceipts();
    claimsOfLines();
    lateReceipts();
    numberOfStockDoesNotMatter();
    pegWithoutOrders();
    pegOfOrdersOfWhateverItem();
    pegRefuses();
    CHECK.end();
  }

  private static void suppliesInTheirOrder() {
    NettedPlans x = new NettedPlans();
    x.stock(4, 5);
    x.order(4, 3, 4);
    x.order(4, 1, 6);
    x.order(4, 3, 2);
    x.order(5, 0, 100);
    x.demand(4, 3, 10);
    x.demand(4, 1, 8);
    x.demand(4, 3, 3);
    x.demand(5, 3, 7);
    x.replan();
    CHECK.is("receipt of week 3", 4, () -> x.planned(4, 3));
    // a row a demand: stock, orders 0 to 3, receipt of week 3
    long[][] due = {{0, 4, 3, 2, 0, 1}, {5, 0, 3, 0, 0, 0}, {0, 0, 0, 0, 0, 3}, {0, 0, 0, 0, 7, 0}};
    for (int demand = 0; demand < 4; demand++) {
      int d = demand;
      CHECK.is("stock for " + d, due[d][0], () -> x.peg(d, 0, -77));
      for (int order = 0; order < 4; order++) {
        int o = order;
        CHECK.is("order " + o + " for " + d, due[d][1 + o], () -> x.peg(d, 1, o));
      }
      for (int week = 0; week < 12; week++) {
        int w = week;
        CHECK.is("week " + w + " for " + d, w == 3 ? due[d][5] : 0, () -> x.peg(d, 2, w));
      }
    }
  }

  private static void ordersBetweenReceipts() {
    NettedPlans x = new NettedPlans();
    x.demand(9, 1, 10);
    x.demand(9, 3, 10);
    x.demand(9, 5, 10);
    x.order(9, 4, 3);
    x.order(9, 2, 2);
    x.order(9, 2, 2);
    x.replan();
    // supplies: week 1 10, orders 1 and 2, week 3 6, order 0, week 5 7
    CHECK.is("week 1", 10, () -> x.peg(0, 2, 1));
    CHECK.is("order 1", 2, () -> x.peg(1, 1, 1));
    CHECK.is("order 2", 2, () -> x.peg(1, 1, 2));
    CHECK.is("week 3", 6, () -> x.peg(1, 2, 3));
    CHECK.is("order 0", 3, () -> x.peg(2, 1, 0));
    CHECK.is("week 5", 7, () -> x.peg(2, 2, 5));
    CHECK.is("none of week 3 is left", 0, () -> x.peg(2, 2, 3));
    CHECK.is("none of order 0 is early", 0, () -> x.peg(1, 1, 0));
  }

  private static void claimsOfLines() {
    NettedPlans x = new NettedPlans();
    x.line(0, 1, 2, 0, 11);
    x.demand(0, 4, 3);
    x.demand(1, 5, 9);
    x.demand(1, 4, 2);
    x.demand(0, 5, 1);
    x.demand(1, 5, 4);
    x.stock(1, 12);
    x.replan();
    // week 4: 2, and 6 for item 0; week 5: 9, 4, and 2 for item 0
    CHECK.is("first in week 4", 2, () -> x.peg(2, 0, 0));
    CHECK.is("behind what lines ask for in week 4", 4, () -> x.peg(1, 0, 0));
    CHECK.is("the rest is planned", 5, () -> x.peg(1, 2, 5));
    CHECK.is("before what lines ask for in week 5", 4, () -> x.peg(4, 2, 5));
    CHECK.is("planned in all", 11, () -> x.planned(1, 5));
    CHECK.is("the parent's own", 3, () -> x.peg(0, 2, 4));
  }

  private static void lateReceipts() {
    NettedPlans x = new NettedPlans();
    x.item(2, 0, 1, 4, 0);
    x.stock(2, 3);
    x.order(2, 4, 1);
    x.demand(2, 0, 10);
    x.demand(2, 4, 2);
    x.demand(2, 6, 0);
    x.replan();
    CHECK.is("planned", 8, () -> x.planned(2, 4));
    CHECK.is("stock", 3, () -> x.peg(0, 0, 0));
    CHECK.is("an order that comes late", 1, () -> x.peg(0, 1, 0));
    CHECK.is("a receipt that comes late", 6, () -> x.peg(0, 2, 4));
    CHECK.is("the next demand", 2, () -> x.peg(1, 2, 4));
    CHECK.is("a demand of none", 0, () -> x.peg(2, 2, 4));
  }

  private static void numberOfStockDoesNotMatter() {
    NettedPlans x = new NettedPlans();
    x.stock(0, 3);
    x.demand(0, 11, 4);
    x.replan();
    for (int number : new int[] {0, -1, 1, 11, 12, 24, Integer.MIN_VALUE, Integer.MAX_VALUE}) {
      CHECK.is("stock with number " + number, 3, () -> x.peg(0, 0, number));
    }
  }

  private static void pegWithoutOrders() {
    NettedPlans x = new NettedPlans();
    x.demand(0, 11, 4);
    x.replan();
    CHECK.fails("no order 0", Check.INDEX, () -> x.peg(0, 1, 0));
    CHECK.is("no receipt in week 0", 0, () -> x.peg(0, 2, 0));
    CHECK.is("the receipt of week 11", 4, () -> x.peg(0, 2, 11));
    x.order(5, 0, 1);
    x.replan();
    CHECK.is("order 0 is there now", 0, () -> x.peg(0, 1, 0));
    CHECK.fails("no order 1", Check.INDEX, () -> x.peg(0, 1, 1));
  }

  private static void pegOfOrdersOfWhateverItem() {
    NettedPlans x = new NettedPlans();
    x.demand(0, 0, 1000);
    x.demand(1, 0, 1000);
    x.order(1, 0, 1000);
    x.order(0, 0, 1000);
    x.replan();
    CHECK.is("of another item", 0, () -> x.peg(0, 1, 0));
    CHECK.is("of its own", 1000, () -> x.peg(0, 1, 1));
    CHECK.is("of its own, too", 1000, () -> x.peg(1, 1, 0));
    CHECK.is("of another, too", 0, () -> x.peg(1, 1, 1));
  }

  private static void pegRefuses() {
    NettedPlans x = new NettedPlans();
    x.demand(0, 0, 1);
    x.order(1, 0, 1);
    x.replan();
    CHECK.is("an order of another item", 0, () -> x.peg(0, 1, 0));
    for (int round = 0; round < 2; round++) {
      CHECK.fails("demand -1", Check.INDEX, () -> x.peg(-1, 0, 0));
      CHECK.fails("demand 1", Check.INDEX, () -> x.peg(1, 0, 0));
      CHECK.fails("demand wins over kind", Check.INDEX, () -> x.peg(1, 3, 0));
      CHECK.fails("order -1", Check.INDEX, () -> x.peg(0, 1, -1));
      CHECK.fails("order 1", Check.INDEX, () -> x.peg(0, 1, 1));
      CHECK.fails("week -1", Check.INDEX, () -> x.peg(0, 2, -1));
      CHECK.fails("week 12", Check.INDEX, () -> x.peg(0, 2, 12));
      CHECK.fails("kind -1", Check.ARGUMENT, () -> x.peg(0, -1, 0));
      CHECK.fails("kind 3", Check.ARGUMENT, () -> x.peg(0, 3, 99));
      // in the second round they must win over the state
      x.stock(0, 0);
    }
    CHECK.fails("stock", Check.STATE, () -> x.peg(0, 0, 0));
    CHECK.fails("order", Check.STATE, () -> x.peg(0, 1, 0));
    CHECK.fails("receipt", Check.STATE, () -> x.peg(0, 2, 0));
    x.replan();
    CHECK.is("again", 1, () -> x.peg(0, 2, 0));
  }
}
