/** Promises 16 to 18: promise, reserve, giveBack. */
public final class PromisesTest {
  private static final Check CHECK = new Check();

  public static void main(String[] args) {
    weeksAreTrue();
    allLaterWeeksCount();
    plannedReceiptsAndSafetyAreFree();
    reservationsTake();
    reservationsStay();
    atMost24();
    givenBack();
    refuses();
    CHECK.end();
  }

  private static void weeksAreTrue() {
    NettedPlans x = new NettedPlans();
    x.stock(7, 10);
    x.order(7, 4, 20);
    x.order(7, 11, 70);
    x.replan();
    CHECK.is("from stock", 0, () -> x.promise(7, 10, 0));
    CHECK.is("not before the week told", 6, () -> x.promise(7, 10, 6));
    CHECK.is("with an order", 4, () -> x.promise(7, 11, 0));
    CHECK.is("with all of it", 4, () -> x.promise(7, 30, 2));
    CHECK.is("in the last week", 11, () -> x.promise(7, 31, 0));
    CHECK.is("in the last week told", 11, () -> x.promise(7, 100, 11));
    CHECK.is("never", NettedPlans.NONE, () -> x.promise(7, 101, 0));
    CHECK.is("never in the last week", NettedPlans.NONE, () -> x.promise(7, 1000, 11));
    CHECK.is("another item", NettedPlans.NONE, () -> x.promise(8, 1, 0));
  }

  private static void allLaterWeeksCount() {
    NettedPlans x = new NettedPlans();
    x.stock(7, 10);
    x.demand(7, 5, 8);
    x.order(7, 8, 4);
    x.replan();
    CHECK.is("what is left in week 5", 0, () -> x.promise(7, 2, 0));
    CHECK.is("more only behind it", 8, () -> x.promise(7, 3, 0));
    CHECK.is("reserve sees that, too", NettedPlans.NONE, () -> x.reserve(7, 3, 7));
    CHECK.is("from week 8 on", 0, () -> x.reserve(7, 3, 8));
  }

  private static void plannedReceiptsAndSafetyAreFree() {
    NettedPlans x = new NettedPlans();
    x.item(7, 1, 50, 2, 5);
    x.demand(7, 3, 10);
    x.replan();
    CHECK.is("a lot for safety", 50, () -> x.planned(7, 2));
    CHECK.is("all that is left of it", 2, () -> x.promise(7, 40, 0));
    CHECK.is("no more", NettedPlans.NONE, () -> x.promise(7, 41, 0));
  }

  private static void reservationsTake() {
    NettedPlans x = new NettedPlans();
    x.stock(7, 10);
    x.stock(8, 10);
    x.replan();
    CHECK.is("first", 0, () -> x.reserve(7, 4, 6));
    CHECK.is("count", 1, () -> x.count(3));
    CHECK.is("the plan is not touched", 0, () -> x.count(5));
    CHECK.is("nor is gross", 0, () -> x.gross(7, 6));
    CHECK.is("nor the balance", 10, () -> x.balance(7, 6));
    CHECK.is("free before counts for all behind", 0, () -> x.promise(7, 6, 0));
    CHECK.is("no more than that", NettedPlans.NONE, () -> x.promise(7, 7, 0));
    CHECK.is("not TRUE", NettedPlans.NONE, () -> x.reserve(7, 7, 0));
    CHECK.is("not counted", 1, () -> x.count(3));
    CHECK.is("another item", 1, () -> x.reserve(8, 10, 0));
    CHECK.is("just so", 2, () -> x.reserve(7, 6, 0));
    CHECK.is("all is gone", NettedPlans.NONE, () -> x.promise(7, 1, 0));
    CHECK.is("also in the last week", NettedPlans.NONE, () -> x.reserve(7, 1, 11));
    CHECK.is("nothing is netted by that", 0, x::replan);
  }

  private static void reservationsStay() {
    NettedPlans x = new NettedPlans();
    x.stock(7, 10);
    x.replan();
    x.reserve(7, 8, 3);
    x.stock(7, 5);
    x.order(7, 9, 4);
    x.replan();
    CHECK.is("3 too few, then 1 more", 9, () -> x.promise(7, 1, 0));
    CHECK.is("no more", NettedPlans.NONE, () -> x.promise(7, 2, 0));
    CHECK.is("a week before is too early", NettedPlans.NONE, () -> x.reserve(7, 1, 8));
    CHECK.is("no planned receipt for a reservation", 0, () -> x.planned(7, 3));
  }

  private static void atMost24() {
    NettedPlans x = new NettedPlans();
    x.stock(7, 100);
    x.replan();
    for (int k = 0; k < 24; k++) {
      int number = k;
      CHECK.is("number " + k, number, () -> x.reserve(7, 1, number % 12));
    }
    CHECK.fails("a 25th", Check.STATE, () -> x.reserve(7, 1, 0));
    CHECK.fails("a 25th that is not TRUE", Check.STATE, () -> x.reserve(7, 1000, 0));
    CHECK.fails("argument wins", Check.ARGUMENT, () -> x.reserve(7, 0, 0));
    CHECK.fails("index wins", Check.INDEX, () -> x.reserve(12, 0, 0));
    CHECK.is("promises go on", 0, () -> x.promise(7, 76, 0));
    CHECK.is("given back", 1, () -> x.giveBack(23));
    CHECK.fails("makes no room", Check.STATE, () -> x.reserve(7, 1, 0));
    CHECK.is("but is free", 0, () -> x.promise(7, 77, 0));
    CHECK.is("24", 24, () -> x.count(3));
  }

  private static void givenBack() {
    NettedPlans x = new NettedPlans();
    x.stock(7, 10);
    x.replan();
    x.reserve(7, 4, 2);
    x.reserve(7, 5, 3);
    CHECK.is("was 4", 4, () -> x.giveBack(0));
    CHECK.is("is none now", 0, () -> x.giveBack(0));
    CHECK.is("is free", 0, () -> x.promise(7, 5, 0));
    CHECK.is("the plan is not touched", 0, () -> x.count(5));
    CHECK.is("still numbered", 2, () -> x.count(3));
    CHECK.is("the next number", 2, () -> x.reserve(7, 1, 0));
    CHECK.fails("reservation -1", Check.INDEX, () -> x.giveBack(-1));
    CHECK.fails("reservation 3", Check.INDEX, () -> x.giveBack(3));
    x.stock(7, 10);
    CHECK.is("without a plan", 5, () -> x.giveBack(1));
  }

  private static void refuses() {
    NettedPlans x = new NettedPlans();
    x.stock(0, 2000);
    x.replan();
    for (int round = 0; round < 2; round++) {
      CHECK.fails("promise -1", Check.INDEX, () -> x.promise(-1, 1, 0));
      CHECK.fails("promise 12", Check.INDEX, () -> x.promise(12, 1, 0));
      CHECK.fails("promise in -1", Check.INDEX, () -> x.promise(0, 1, -1));
      CHECK.fails("promise in 12", Check.INDEX, () -> x.promise(0, 0, 12));
      CHECK.fails("promise 0", Check.ARGUMENT, () -> x.promise(0, 0, 0));
      CHECK.fails("promise 1001", Check.ARGUMENT, () -> x.promise(0, 1001, 0));
      CHECK.fails("reserve -1", Check.INDEX, () -> x.reserve(-1, 1, 0));
      CHECK.fails("reserve 12", Check.INDEX, () -> x.reserve(12, 1, 0));
      CHECK.fails("reserve in -1", Check.INDEX, () -> x.reserve(0, 1, -1));
      CHECK.fails("reserve in 12", Check.INDEX, () -> x.reserve(0, 0, 12));
      CHECK.fails("reserve 0", Check.ARGUMENT, () -> x.reserve(0, 0, 0));
      CHECK.fails("reserve 1001", Check.ARGUMENT, () -> x.reserve(0, 1001, 0));
      // in the second round they must win over the state
      x.stock(0, 2000);
    }
    CHECK.fails("promise", Check.STATE, () -> x.promise(0, 1, 0));
    CHECK.fails("reserve", Check.STATE, () -> x.reserve(0, 1, 0));
    CHECK.is("none is reserved", 0, () -> x.count(3));
    x.replan();
    CHECK.is("most of all", 0, () -> x.reserve(0, 1000, 0));
  }
}
