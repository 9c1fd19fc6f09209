import java.util.Random;

/** Long runs of calls of all kinds, fair and foul, that must be answered as the model does. */
public final class ModelTest {
  private static final int RUNS = 1000;
  private static final int CALLS = 512;

  private final Check check;
  private final Random random;
  private final NettedPlans x = new NettedPlans();
  private final Model m = new Model();
  private final int asks;
  private String trail = "";

  private ModelTest(Check check, long seed) {
    this.check = check;
    this.random = new Random(seed);
    this.asks = 1 + random.nextInt(20);
  }

  public static void main(String[] args) {
    Check check = new Check();
    for (int run = 0; run < RUNS; run++) {
      new ModelTest(check, 7000 + run).run(run);
    }
    check.end();
  }

  private void run(int run) {
    trail = "run " + run;
    for (int call = 0; call < CALLS; call++) {
      int kind = random.nextInt(10 + asks);
      if (kind < 9) {
        tell(random.nextInt(11));
      } else if (kind == 9) {
        compare("replan()", x::replan, m::replan);
      } else {
        ask(random.nextInt(14));
      }
    }
  }

  private void compare(String call, Check.Ask got, Check.Ask due) {
    check.same(trail + ": " + call, outcome(due), outcome(got));
  }

  private static String outcome(Check.Ask ask) {
    try {
      return Long.toString(ask.answer());
    } catch (RuntimeException e) {
      return e.getClass().getName();
    }
  }

  private static long done(Check.Tell tell) {
    tell.run();
    return 0;
  }

  /** Most often in range, at times at its edges or beyond them. */
  private int pick(int least, int most) {
    switch (random.nextInt(60)) {
      case 0:
        return least - 1;
      case 1:
        return most + 1;
      case 2:
        return random.nextBoolean() ? Integer.MIN_VALUE : Integer.MAX_VALUE;
      case 3:
      case 4:
        return least;
      case 5:
      case 6:
        return most;
      default:
        return least + random.nextInt(most - least + 1);
    }
  }

  private int few(int most) {
    return random.nextInt(3) == 0 ? pick(0, most) : pick(0, Math.min(most, 30));
  }

  private void tell(int kind) {
    int item = pick(0, 11);
    int week = pick(0, 11);
    int number = random.nextInt(25);
    switch (kind) {
      case 0: {
        int rule = pick(0, 3);
        int size = random.nextBoolean() ? pick(1, 12) : pick(1, 1000);
        int lead = pick(0, 4);
        int safety = random.nextBoolean() ? 0 : few(1000);
        compare("item", () -> done(() -> x.item(item, rule, size, lead, safety)),
            () -> done(() -> m.item(item, rule, size, lead, safety)));
        break;
      }
      case 1: {
        int scrap = pick(0, 200);
        int setup = few(100000);
        int hold = few(100);
        compare("costs", () -> done(() -> x.costs(item, scrap, setup, hold)),
            () -> done(() -> m.costs(item, scrap, setup, hold)));
        break;
      }
      case 2: {
        int centre = pick(0, 2);
        int hours = pick(0, 9);
        compare("made", () -> done(() -> x.made(item, centre, hours)),
            () -> done(() -> m.made(item, centre, hours)));
        break;
      }
      case 3:
      case 4:
      case 5: {
        int child = random.nextInt(4) == 0 ? pick(0, 11) : Math.min(item, 10) + 1;
        int per = random.nextInt(5) == 0 ? 0 : pick(0, 9);
        int from = random.nextInt(3) == 0 ? pick(0, 11) : 0;
        int to = random.nextInt(3) == 0 ? pick(0, 11) : 11;
        compare("line", () -> done(() -> x.line(item, child, per, from, to)),
            () -> done(() -> m.line(item, child, per, from, to)));
        break;
      }
      case 6: {
        int n = few(10000);
        compare("stock", () -> x.stock(item, n), () -> m.stock(item, n));
        break;
      }
      case 7:
      case 8: {
        int n = few(1000);
        int busy = random.nextBoolean() ? item : random.nextInt(3);
        compare("demand", () -> x.demand(busy, week, n), () -> m.demand(busy, week, n));
        break;
      }
      case 9: {
        int n = few(1000);
        int busy = random.nextBoolean() ? item : random.nextInt(3);
        compare("order", () -> x.order(busy, week, n), () -> m.order(busy, week, n));
        break;
      }
      default: {
        int which = pick(0, 1);
        int n = few(1000);
        compare("change", () -> x.change(which, number, n), () -> m.change(which, number, n));
        break;
      }
    }
  }

  private void ask(int kind) {
    // half of the asking finds a plan
    if (random.nextBoolean()) {
      compare("replan() to ask", x::replan, m::replan);
    }
    int item = pick(0, 11);
    int week = pick(0, 11);
    int number = random.nextInt(25);
    switch (kind) {
      case 0:
        compare("level", () -> x.level(item), () -> m.level(item));
        break;
      case 1:
        compare("gross", () -> x.gross(item, week), () -> m.gross(item, week));
        break;
      case 2:
      case 3:
        compare("planned", () -> x.planned(item, week), () -> m.planned(item, week));
        break;
      case 4:
        compare("balance", () -> x.balance(item, week), () -> m.balance(item, week));
        break;
      case 5:
      case 6:
      case 7: {
        int which = pick(0, 2);
        int served = which == 2 ? week : random.nextBoolean() ? number : random.nextInt(3);
        int demand = random.nextBoolean() ? pick(0, 23) : random.nextInt(4);
        compare("peg", () -> x.peg(demand, which, served), () -> m.peg(demand, which, served));
        break;
      }
      case 8: {
        int n = few(1000);
        compare("promise", () -> x.promise(item, n, week), () -> m.promise(item, n, week));
        break;
      }
      case 9:
      case 10: {
        int n = few(1000);
        compare("reserve", () -> x.reserve(item, n, week), () -> m.reserve(item, n, week));
        break;
      }
      case 11: {
        compare("giveBack", () -> x.giveBack(number), () -> m.giveBack(number));
        break;
      }
      case 12: {
        int centre = pick(0, 2);
        compare("load", () -> x.load(centre, week), () -> m.load(centre, week));
        break;
      }
      default: {
        int what = pick(0, 5);
        compare("count", () -> x.count(what), () -> m.count(what));
        break;
      }
    }
  }
}
