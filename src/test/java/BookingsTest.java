/** Promises 7 to 9: demand, change, order. */
public final class BookingsTest {
  private static final Check CHECK = new Check();

  private interface Booking {
    int book(int item, int week, int n);
  }

  public static void main(String[] args) {
    for (int kind = 0; kind < 2; kind++) {
      numbersFromZero(kind);
      refuses(kind);
      atMost24(kind);
      quantitiesAtTheirEdges(kind);
      changes(kind);
      changeRefuses(kind);
    }
    demandsAndOrdersHaveTheirOwnNumbers();
    demandIsAskedFor();
    orderIsBrought();
    changeOfAnotherKind();
    CHECK.end();
  }

  private static Booking of(NettedPlans x, int kind) {
    return kind == 0 ? x::demand : x::order;
  }

  private static void numbersFromZero(int kind) {
    NettedPlans x = new NettedPlans();
    Booking of = of(x, kind);
    x.replan();
    CHECK.is("first number", 0, () -> of.book(3, 0, 0));
    CHECK.is("told", 1, () -> x.count(5));
    CHECK.is("netted, though for none", 1, x::replan);
    CHECK.is("second number", 1, () -> of.book(3, 11, 1000));
    CHECK.is("third number, of another item", 2, () -> of.book(0, 11, 1));
    CHECK.is("count", 3, () -> x.count(1 + kind));
    CHECK.is("count of the others", 0, () -> x.count(2 - kind));
    CHECK.is("both netted", 2, x::replan);
  }

  private static void refuses(int kind) {
    NettedPlans x = new NettedPlans();
    Booking of = of(x, kind);
    x.replan();
    CHECK.fails("item -1", Check.INDEX, () -> of.book(-1, 0, 1));
    CHECK.fails("item 12", Check.INDEX, () -> of.book(12, 0, 1));
    CHECK.fails("week -1", Check.INDEX, () -> of.book(0, -1, 1));
    CHECK.fails("week 12", Check.INDEX, () -> of.book(0, 12, 1));
    CHECK.fails("week 12 wins", Check.INDEX, () -> of.book(0, 12, -1));
    CHECK.fails("n -1", Check.ARGUMENT, () -> of.book(0, 0, -1));
    CHECK.fails("n 1001", Check.ARGUMENT, () -> of.book(0, 0, 1001));
    CHECK.is("none is booked", 0, () -> x.count(1 + kind));
    CHECK.is("none is told", 0, () -> x.count(5));
  }

  private static void atMost24(int kind) {
    NettedPlans x = new NettedPlans();
    Booking of = of(x, kind);
    for (int k = 0; k < 24; k++) {
      int number = k;
      CHECK.is("number " + k, number, () -> of.book(number % 12, number % 7, number));
    }
    x.replan();
    CHECK.fails("a 25th", Check.STATE, () -> of.book(0, 0, 1));
    CHECK.fails("a 25th of 0", Check.STATE, () -> of.book(0, 0, 0));
    CHECK.fails("argument wins", Check.ARGUMENT, () -> of.book(0, 0, 1001));
    CHECK.fails("index wins", Check.INDEX, () -> of.book(12, 0, 1001));
    CHECK.is("not told", 0, () -> x.count(5));
    CHECK.is("24", 24, () -> x.count(1 + kind));
    CHECK.is("changed to 0", 23, () -> x.change(kind, 23, 0));
    CHECK.fails("makes no room", Check.STATE, () -> of.book(0, 0, 1));
  }

  private static void quantitiesAtTheirEdges(int kind) {
    NettedPlans x = new NettedPlans();
    Booking of = of(x, kind);
    CHECK.is("none", 0, () -> of.book(5, 0, 0));
    CHECK.is("the most", 1, () -> of.book(5, 11, 1000));
    x.replan();
    long asked = kind == 0 ? 1000 : 0;
    CHECK.is("gross of week 0", 0, () -> x.gross(5, 0));
    CHECK.is("gross of week 11", asked, () -> x.gross(5, 11));
    CHECK.is("planned in week 11", asked, () -> x.planned(5, 11));
    CHECK.is("balance of week 10", 0, () -> x.balance(5, 10));
    CHECK.is("balance of week 11", 1000 - asked, () -> x.balance(5, 11));
    CHECK.is("none to the most", 0, () -> x.change(kind, 0, 1000));
    CHECK.is("the most to none", 1000, () -> x.change(kind, 1, 0));
    x.replan();
    CHECK.is("gross of week 0 now", asked, () -> x.gross(5, 0));
    CHECK.is("gross of week 11 now", 0, () -> x.gross(5, 11));
    CHECK.is("balance of week 0 now", 1000 - asked, () -> x.balance(5, 0));
  }

  private static void changes(int kind) {
    NettedPlans x = new NettedPlans();
    Booking of = of(x, kind);
    of.book(1, 4, 30);
    of.book(2, 5, 40);
    x.replan();
    CHECK.is("was 40", 40, () -> x.change(kind, 1, 1000));
    CHECK.is("told", 1, () -> x.count(5));
    CHECK.is("its item is netted", 1, x::replan);
    CHECK.is("was 1000", 1000, () -> x.change(kind, 1, 0));
    CHECK.is("the other was not touched", 30, () -> x.change(kind, 0, 30));
    CHECK.is("netted, also as it was", 2, x::replan);
    CHECK.is("no booking more", 2, () -> x.count(1 + kind));
  }

  private static void changeRefuses(int kind) {
    NettedPlans x = new NettedPlans();
    of(x, kind).book(1, 4, 30);
    x.replan();
    CHECK.fails("number -1", Check.INDEX, () -> x.change(kind, -1, 1));
    CHECK.fails("number 1", Check.INDEX, () -> x.change(kind, 1, 1));
    CHECK.fails("number wins over n", Check.INDEX, () -> x.change(kind, 1, 1001));
    CHECK.fails("number 0 of the others", Check.INDEX, () -> x.change(1 - kind, 0, 1));
    CHECK.fails("n -1", Check.ARGUMENT, () -> x.change(kind, 0, -1));
    CHECK.fails("n 1001", Check.ARGUMENT, () -> x.change(kind, 0, 1001));
    CHECK.is("not told", 0, () -> x.count(5));
    CHECK.is("as it was", 30, () -> x.change(kind, 0, 1));
  }

  private static void demandsAndOrdersHaveTheirOwnNumbers() {
    NettedPlans x = new NettedPlans();
    CHECK.is("demand", 0, () -> x.demand(1, 1, 1));
    CHECK.is("order", 0, () -> x.order(1, 1, 2));
    CHECK.is("demand", 1, () -> x.demand(1, 1, 3));
    CHECK.is("the demand", 3, () -> x.change(0, 1, 4));
    CHECK.is("the order", 2, () -> x.change(1, 0, 5));
  }

  private static void demandIsAskedFor() {
    NettedPlans x = new NettedPlans();
    x.demand(6, 3, 10);
    x.demand(6, 3, 5);
    x.demand(6, 4, 1);
    x.replan();
    CHECK.is("both of the week", 15, () -> x.gross(6, 3));
    CHECK.is("that of the next", 1, () -> x.gross(6, 4));
    x.change(0, 0, 2);
    x.replan();
    CHECK.is("changed", 7, () -> x.gross(6, 3));
  }

  private static void orderIsBrought() {
    NettedPlans x = new NettedPlans();
    x.order(6, 3, 10);
    x.order(6, 3, 5);
    x.replan();
    CHECK.is("before", 0, () -> x.balance(6, 2));
    CHECK.is("in its week", 15, () -> x.balance(6, 3));
    CHECK.is("an order is no planned receipt", 0, () -> x.planned(6, 3));
    x.change(1, 1, 6);
    x.replan();
    CHECK.is("changed", 16, () -> x.balance(6, 11));
  }

  private static void changeOfAnotherKind() {
    NettedPlans x = new NettedPlans();
    x.demand(0, 0, 1);
    x.order(0, 0, 1);
    x.replan();
    CHECK.fails("kind 2", Check.ARGUMENT, () -> x.change(2, 0, 1));
    CHECK.fails("kind -1", Check.ARGUMENT, () -> x.change(-1, 0, 1));
    CHECK.fails("kind wins over the number", Check.ARGUMENT, () -> x.change(2, 99, 1));
    CHECK.is("not told", 0, () -> x.count(5));
  }
}
