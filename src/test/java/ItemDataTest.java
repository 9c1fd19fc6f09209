/** Promises 1 to 4 and 6: a new object, item, costs, made, stock. */
public final class ItemDataTest {
  private static final Check CHECK = new Check();

  public static void main(String[] args) {
    newObject();
    firstPlanIsEmpty();
    itemTellsData();
    itemRefuses();
    costsTellData();
    costsRefuse();
    madeTellsData();
    madeRefuses();
    madeLeavesWhatIsTold();
    stockTells();
    stockAtItsEdges();
    stockRefuses();
    refusedChangesNothing();
    CHECK.end();
  }

  private static void newObject() {
    NettedPlans x = new NettedPlans();
    for (int what = 0; what < 4; what++) {
      int k = what;
      CHECK.is("new: count(" + k + ")", 0, () -> x.count(k));
    }
    CHECK.fails("new: count(4)", Check.STATE, () -> x.count(4));
    CHECK.is("new: count(5)", 1, () -> x.count(5));
    CHECK.fails("new: gross", Check.STATE, () -> x.gross(0, 0));
    CHECK.fails("new: planned", Check.STATE, () -> x.planned(0, 0));
    CHECK.fails("new: balance", Check.STATE, () -> x.balance(0, 0));
    CHECK.fails("new: load", Check.STATE, () -> x.load(0, 0));
    CHECK.fails("new: promise", Check.STATE, () -> x.promise(0, 1, 0));
    CHECK.fails("new: reserve", Check.STATE, () -> x.reserve(0, 1, 0));
    CHECK.fails("new: no demand", Check.INDEX, () -> x.peg(0, 0, 0));
    CHECK.fails("new: no demand to change", Check.INDEX, () -> x.change(0, 0, 0));
    CHECK.fails("new: no order to change", Check.INDEX, () -> x.change(1, 0, 0));
    CHECK.fails("new: no reservation", Check.INDEX, () -> x.giveBack(0));
    for (int i = 0; i < 12; i++) {
      int item = i;
      CHECK.is("new: level", 0, () -> x.level(item));
      CHECK.is("new: stock", 0, () -> x.stock(item, 0));
    }
  }

  private static void firstPlanIsEmpty() {
    NettedPlans x = new NettedPlans();
    CHECK.is("first replan", 12, x::replan);
    CHECK.is("then nothing is told", 0, () -> x.count(5));
    CHECK.is("no item is short", 0, () -> x.count(4));
    CHECK.is("nothing is free", NettedPlans.NONE, () -> x.promise(4, 1, 0));
    for (int i = 0; i < 12; i++) {
      int item = i;
      CHECK.is("no gross", 0, () -> x.gross(item, 11));
      CHECK.is("no receipt", 0, () -> x.planned(item, 0));
      CHECK.is("no balance", 0, () -> x.balance(item, 5));
    }
    // rule 0 with no lead time is what an item has at first; size 1 shows in rules 1 and 2
    x.demand(8, 0, 3);
    x.replan();
    CHECK.is("rule 0 without lead time", 3, () -> x.planned(8, 0));
  }

  private static void itemTellsData() {
    NettedPlans x = new NettedPlans();
    x.demand(11, 5, 7);
    x.replan();
    x.item(11, 1, 10, 0, 0);
    CHECK.is("item tells", 1, () -> x.count(5));
    CHECK.fails("item leaves no plan", Check.STATE, () -> x.planned(11, 5));
    CHECK.is("item nets one", 1, x::replan);
    CHECK.is("a lot of 10", 10, () -> x.planned(11, 5));
    x.item(11, 0, 1, 4, 0);
    x.change(0, 0, 7);
    x.replan();
    CHECK.is("lead time of 4", 7, () -> x.planned(11, 5));
    x.demand(11, 2, 5);
    x.replan();
    CHECK.is("what was due in week 2 comes in week 4", 5, () -> x.planned(11, 4));
    CHECK.is("and is missing before", -5, () -> x.balance(11, 3));
    x.item(11, 0, 1, 0, 1000);
    x.replan();
    CHECK.is("safety in week 0", 1000, () -> x.planned(11, 0));
    x.item(11, 0, 1, 0, 1000);
    CHECK.is("told as it was: told", 1, () -> x.count(5));
    CHECK.is("told as it was: netted", 1, x::replan);
  }

  private static void itemRefuses() {
    NettedPlans x = new NettedPlans();
    x.replan();
    CHECK.runs("least of all", () -> x.item(0, 0, 1, 0, 0));
    CHECK.runs("most of all", () -> x.item(11, 3, 1000, 4, 1000));
    x.replan();
    CHECK.fails("item -1", Check.INDEX, () -> x.item(-1, 0, 1, 0, 0));
    CHECK.fails("item 12", Check.INDEX, () -> x.item(12, 0, 1, 0, 0));
    CHECK.fails("item 12 wins", Check.INDEX, () -> x.item(12, 4, 0, 5, -1));
    CHECK.fails("rule -1", Check.ARGUMENT, () -> x.item(0, -1, 1, 0, 0));
    CHECK.fails("rule 4", Check.ARGUMENT, () -> x.item(0, 4, 1, 0, 0));
    CHECK.fails("size 0", Check.ARGUMENT, () -> x.item(0, 0, 0, 0, 0));
    CHECK.fails("size 1001", Check.ARGUMENT, () -> x.item(0, 0, 1001, 0, 0));
    CHECK.fails("lead -1", Check.ARGUMENT, () -> x.item(0, 0, 1, -1, 0));
    CHECK.fails("lead 5", Check.ARGUMENT, () -> x.item(0, 0, 1, 5, 0));
    CHECK.fails("safety -1", Check.ARGUMENT, () -> x.item(0, 0, 1, 0, -1));
    CHECK.fails("safety 1001", Check.ARGUMENT, () -> x.item(0, 0, 1, 0, 1001));
    CHECK.is("nothing is told by that", 0, () -> x.count(5));
  }

  private static void costsTellData() {
    NettedPlans x = new NettedPlans();
    x.line(0, 1, 1, 0, 11);
    x.demand(0, 3, 1);
    x.replan();
    CHECK.is("no scrap at first", 1, () -> x.gross(1, 3));
    x.costs(1, 1, 0, 0);
    CHECK.is("costs tell", 1, () -> x.count(5));
    CHECK.is("costs net one", 1, x::replan);
    CHECK.is("a thousandth is rounded up", 2, () -> x.gross(1, 3));
    x.change(0, 0, 1000);
    x.replan();
    CHECK.is("a thousandth of 1000", 1001, () -> x.gross(1, 3));
    x.costs(1, 1, 0, 0);
    CHECK.is("costs as they were", 1, x::replan);
    x.costs(0, 200, 0, 0);
    CHECK.is("scrap is the child's, not the parent's", 1, x::replan);
    CHECK.is("so gross stays", 1001, () -> x.gross(1, 3));
  }

  private static void costsRefuse() {
    NettedPlans x = new NettedPlans();
    x.replan();
    CHECK.runs("least costs", () -> x.costs(0, 0, 0, 0));
    CHECK.runs("most costs", () -> x.costs(11, 200, 100000, 100));
    x.replan();
    CHECK.fails("costs of -1", Check.INDEX, () -> x.costs(-1, 0, 0, 0));
    CHECK.fails("costs of 12", Check.INDEX, () -> x.costs(12, 201, -1, 101));
    CHECK.fails("scrap -1", Check.ARGUMENT, () -> x.costs(0, -1, 0, 0));
    CHECK.fails("scrap 201", Check.ARGUMENT, () -> x.costs(0, 201, 0, 0));
    CHECK.fails("setup -1", Check.ARGUMENT, () -> x.costs(0, 0, -1, 0));
    CHECK.fails("setup 100001", Check.ARGUMENT, () -> x.costs(0, 0, 100001, 0));
    CHECK.fails("hold -1", Check.ARGUMENT, () -> x.costs(0, 0, 0, -1));
    CHECK.fails("hold 101", Check.ARGUMENT, () -> x.costs(0, 0, 0, 101));
    CHECK.is("nothing is told by refused costs", 0, () -> x.count(5));
  }

  private static void madeTellsData() {
    NettedPlans x = new NettedPlans();
    x.demand(2, 4, 6);
    x.replan();
    CHECK.is("no hours at first", 0, () -> x.load(0, 4));
    x.made(2, 0, 9);
    CHECK.is("made does not touch the plan", 0, () -> x.count(5));
    CHECK.is("hours of centre 0", 54, () -> x.load(0, 4));
    x.made(2, 2, 3);
    CHECK.is("gone from centre 0", 0, () -> x.load(0, 4));
    CHECK.is("hours of centre 2", 18, () -> x.load(2, 4));
    CHECK.is("nothing to net by made", 0, x::replan);
  }

  private static void madeRefuses() {
    NettedPlans x = new NettedPlans();
    CHECK.runs("least made", () -> x.made(0, 0, 0));
    CHECK.runs("most made", () -> x.made(11, 2, 9));
    CHECK.fails("made -1", Check.INDEX, () -> x.made(-1, 0, 0));
    CHECK.fails("made 12", Check.INDEX, () -> x.made(12, 0, 0));
    CHECK.fails("centre -1", Check.INDEX, () -> x.made(0, -1, 0));
    CHECK.fails("centre 3", Check.INDEX, () -> x.made(0, 3, 0));
    CHECK.fails("centre wins over hours", Check.INDEX, () -> x.made(0, 3, 10));
    CHECK.fails("hours -1", Check.ARGUMENT, () -> x.made(0, 0, -1));
    CHECK.fails("hours 10", Check.ARGUMENT, () -> x.made(0, 0, 10));
  }

  private static void madeLeavesWhatIsTold() {
    NettedPlans x = new NettedPlans();
    x.made(2, 1, 9);
    CHECK.is("still nothing planned", 1, () -> x.count(5));
    CHECK.fails("so there is no load", Check.STATE, () -> x.load(1, 0));
    CHECK.is("all, though one was made", 12, x::replan);
    x.demand(2, 0, 1000);
    x.made(2, 1, 8);
    CHECK.is("still told", 1, () -> x.count(5));
    CHECK.is("the one of the demand", 1, x::replan);
    CHECK.is("8 hours for each", 8000, () -> x.load(1, 0));
    x.made(2, 1, 0);
    CHECK.is("no hours", 0, () -> x.load(1, 0));
    x.made(3, 1, 9);
    CHECK.is("another item has no receipts", 0, () -> x.load(1, 0));
  }

  private static void stockAtItsEdges() {
    NettedPlans x = new NettedPlans();
    CHECK.is("none", 0, () -> x.stock(0, 10_000));
    CHECK.is("the most", 10_000, () -> x.stock(0, 0));
    CHECK.is("the least", 0, () -> x.stock(0, 10_000));
    x.replan();
    CHECK.is("the most in balance", 10_000, () -> x.balance(0, 11));
    CHECK.is("more than can be promised at once", 0, () -> x.promise(0, 1000, 0));
    CHECK.is("each item has its own", 0, () -> x.stock(11, 1));
  }

  private static void stockTells() {
    NettedPlans x = new NettedPlans();
    CHECK.is("stock was", 0, () -> x.stock(3, 10000));
    CHECK.is("stock was told", 10000, () -> x.stock(3, 20));
    x.replan();
    CHECK.is("stock in balance", 20, () -> x.balance(3, 0));
    CHECK.is("stock as it was", 20, () -> x.stock(3, 20));
    CHECK.is("is told too", 1, () -> x.count(5));
    CHECK.is("and netted", 1, x::replan);
  }

  private static void stockRefuses() {
    NettedPlans x = new NettedPlans();
    x.stock(3, 8);
    x.replan();
    CHECK.fails("stock of -1", Check.INDEX, () -> x.stock(-1, 0));
    CHECK.fails("stock of 12", Check.INDEX, () -> x.stock(12, -1));
    CHECK.fails("stock -1", Check.ARGUMENT, () -> x.stock(3, -1));
    CHECK.fails("stock 10001", Check.ARGUMENT, () -> x.stock(3, 10001));
    CHECK.is("not told", 0, () -> x.count(5));
    CHECK.is("stock as it was", 8, () -> x.stock(3, 8));
  }

  private static void refusedChangesNothing() {
    NettedPlans x = new NettedPlans();
    x.item(5, 1, 4, 1, 2);
    x.costs(5, 50, 10, 1);
    x.made(5, 1, 2);
    x.demand(5, 3, 5);
    x.replan();
    CHECK.fails("bad safety", Check.ARGUMENT, () -> x.item(5, 0, 9, 0, -1));
    CHECK.fails("bad hold", Check.ARGUMENT, () -> x.costs(5, 0, 0, 101));
    CHECK.fails("bad hours", Check.ARGUMENT, () -> x.made(5, 0, 10));
    x.stock(5, 0);
    x.replan();
    CHECK.is("lots of 4 in week 1", 4, () -> x.planned(5, 1));
    CHECK.is("lots of 4 in week 3", 4, () -> x.planned(5, 3));
    CHECK.is("load where it was", 8, () -> x.load(1, 2));
  }
}
