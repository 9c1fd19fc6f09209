/** What README.md shows. */
public final class ReadmeTest {
  public static void main(String[] args) {
    Check check = new Check();
    NettedPlans plans = new NettedPlans();
    plans.item(0, 0, 1, 2, 5);
    plans.item(1, 1, 50, 1, 0);
    plans.line(0, 1, 3, 0, 11);
    check.is("stock", 0, () -> plans.stock(0, 12));
    check.is("demand", 0, () -> plans.demand(0, 5, 20));
    check.is("replan", 12, plans::replan);
    check.is("planned", 13, () -> plans.planned(0, 5));
    check.is("gross", 39, () -> plans.gross(1, 3));
    check.is("peg", 12, () -> plans.peg(0, 0, 0));
    check.is("promise", 3, () -> plans.promise(1, 10, 0));
    check.end();
  }
}
