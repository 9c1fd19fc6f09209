/** Promises 19 and 20: load, count. */
public final class LoadAndCountTest {
  private static final Check CHECK = new Check();

  public static void main(String[] args) {
    loads();
    loadRefuses();
    counts();
    itemsBelowZero();
    toldOrNot();
    CHECK.end();
  }

  private static void loads() {
    NettedPlans x = new NettedPlans();
    x.item(0, 0, 1, 2, 0);
    x.made(0, 1, 3);
    x.made(4, 1, 9);
    x.made(5, 2, 1);
    x.demand(0, 5, 10);
    x.demand(4, 3, 4);
    x.demand(5, 3, 7);
    x.demand(6, 3, 100);
    x.order(4, 3, 1);
    x.replan();
    CHECK.is("30 of item 0 and 27 of item 4", 57, () -> x.load(1, 3));
    CHECK.is("not when it comes in", 0, () -> x.load(1, 5));
    CHECK.is("the other centre", 7, () -> x.load(2, 3));
    CHECK.is("no hours", 0, () -> x.load(0, 3));
    x.change(0, 0, 0);
    x.demand(0, 11, 1);
    x.replan();
    CHECK.is("item 4 alone", 27, () -> x.load(1, 3));
    CHECK.is("what starts in week 9", 3, () -> x.load(1, 9));
    CHECK.is("nothing starts in week 11", 0, () -> x.load(1, 11));
    x.made(0, 0, 5);
    CHECK.is("at once in its new centre", 5, () -> x.load(0, 9));
    x.item(0, 0, 1, 0, 0);
    x.replan();
    CHECK.is("without lead time, in week 11", 5, () -> x.load(0, 11));
  }

  private static void loadRefuses() {
    NettedPlans x = new NettedPlans();
    x.replan();
    for (int round = 0; round < 2; round++) {
      CHECK.fails("centre -1", Check.INDEX, () -> x.load(-1, 0));
      CHECK.fails("centre 3", Check.INDEX, () -> x.load(3, 0));
      CHECK.fails("week -1", Check.INDEX, () -> x.load(0, -1));
      CHECK.fails("week 12", Check.INDEX, () -> x.load(0, 12));
      // in the second round the index must win over the state
      x.stock(0, 0);
    }
    CHECK.fails("load", Check.STATE, () -> x.load(2, 11));
    x.replan();
    CHECK.is("load again", 0, () -> x.load(2, 11));
  }

  private static void counts() {
    NettedPlans x = new NettedPlans();
    x.line(0, 1, 1, 0, 11);
    x.demand(0, 0, 1);
    x.demand(0, 0, 1);
    x.order(0, 0, 9);
    x.order(0, 0, 9);
    x.order(0, 0, 9);
    x.replan();
    for (int k = 0; k < 4; k++) {
      x.reserve(0, 1, 0);
    }
    // these need no plan
    x.stock(5, 1);
    CHECK.is("lines", 1, () -> x.count(0));
    CHECK.is("demands", 2, () -> x.count(1));
    CHECK.is("orders", 3, () -> x.count(2));
    CHECK.is("reservations", 4, () -> x.count(3));
    CHECK.is("what = -1", NettedPlans.NONE, () -> x.count(-1));
    CHECK.is("what = 6", NettedPlans.NONE, () -> x.count(6));
    CHECK.is("the least what", NettedPlans.NONE, () -> x.count(Integer.MIN_VALUE));
    CHECK.is("the greatest what", NettedPlans.NONE, () -> x.count(Integer.MAX_VALUE));
  }

  private static void itemsBelowZero() {
    NettedPlans x = new NettedPlans();
    x.item(0, 0, 1, 1, 0);
    x.item(11, 0, 1, 4, 0);
    x.demand(0, 0, 5);
    x.demand(11, 3, 5);
    x.demand(5, 0, 5);
    x.replan();
    CHECK.is("two", 2, () -> x.count(4));
    x.stock(0, 5);
    CHECK.fails("without a plan", Check.STATE, () -> x.count(4));
    x.replan();
    CHECK.is("0 is not below 0", 1, () -> x.count(4));
    x.stock(11, 4);
    x.replan();
    CHECK.is("1 too few", 1, () -> x.count(4));
    x.stock(11, 5);
    x.replan();
    CHECK.is("none", 0, () -> x.count(4));
    x.stock(2, 5);
    x.replan();
    x.reserve(2, 5, 0);
    x.stock(2, 0);
    x.replan();
    CHECK.is("reservations are not in the balance", 0, () -> x.count(4));
  }

  private static void toldOrNot() {
    NettedPlans x = new NettedPlans();
    CHECK.is("nothing was planned yet", 1, () -> x.count(5));
    told(x, "item", () -> x.item(0, 0, 1, 0, 0), 1);
    told(x, "costs", () -> x.costs(0, 0, 0, 0), 1);
    told(x, "made", () -> x.made(0, 0, 0), 0);
    told(x, "line", () -> x.line(0, 1, 1, 0, 11), 1);
    told(x, "no line", () -> x.line(0, 1, 0, 0, 11), 1);
    told(x, "stock", () -> x.stock(0, 9), 1);
    told(x, "demand", () -> x.demand(0, 0, 0), 1);
    told(x, "order", () -> x.order(0, 0, 0), 1);
    told(x, "change of a demand", () -> x.change(0, 0, 0), 1);
    told(x, "change of an order", () -> x.change(1, 0, 0), 1);
    told(x, "level", () -> x.level(0), 0);
    told(x, "promise", () -> x.promise(0, 1, 0), 0);
    told(x, "reserve", () -> x.reserve(0, 1, 0), 0);
    told(x, "giveBack", () -> x.giveBack(0), 0);
    told(x, "peg", () -> x.peg(0, 0, 0), 0);
    told(x, "load", () -> x.load(0, 0), 0);
  }

  private static void told(NettedPlans x, String name, Check.Tell tell, int due) {
    x.replan();
    CHECK.is("before " + name, 0, () -> x.count(5));
    CHECK.runs(name, tell);
    CHECK.is("behind " + name, due, () -> x.count(5));
    CHECK.is("netted behind " + name, due, x::replan);
  }
}
