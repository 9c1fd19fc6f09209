import java.util.ArrayList;
import java.util.List;

/**
 * "A call that throws changes nothing; where it lists more than one exception, the first one wins":
 * every call, in offices of all kinds, with one wrong thing and with all mixtures of them.
 */
public final class RefusalsTest {
  /** Few enough for the 512 calls of an object. */
  private static final int AT_ONCE = 20;

  private final Check check;
  private final Offices office;
  private final boolean far;
  private final List<String> before;
  private final List<String> names = new ArrayList<>();
  private final List<Class<? extends RuntimeException>> dues = new ArrayList<>();
  private final List<Answers.Recipe> calls = new ArrayList<>();

  private RefusalsTest(Check check, Offices office, boolean far) {
    this.check = check;
    this.office = office;
    this.far = far;
    this.before = Answers.of(office::tell);
  }

  public static void main(String[] args) {
    Check check = new Check();
    for (Offices office : Offices.values()) {
      new RefusalsTest(check, office, false).refuseAll();
      new RefusalsTest(check, office, true).refuseAll();
    }
    check.end();
  }

  private void refuseAll() {
    item();
    costs();
    made();
    line();
    stock();
    bookings();
    change();
    plans();
    peg();
    promises();
    giveBack();
    counts();
    flush();
  }

  /** A value too small, one that is fine, and one too large. */
  private int[] about(int least, int fine, int most) {
    return far
        ? new int[] {Integer.MIN_VALUE, fine, Integer.MAX_VALUE}
        : new int[] {least - 1, fine, most + 1};
  }

  private int[] items(int fine) {
    return about(0, fine, 11);
  }

  private int[] weeks(int fine) {
    return about(0, fine, 11);
  }

  private static boolean isNot(int value, int least, int most) {
    return value < least || value > most;
  }

  /** The first of what is wrong, in the order of most calls. */
  private static Class<? extends RuntimeException> first(
      boolean index, boolean argument, boolean state) {
    return index ? Check.INDEX : argument ? Check.ARGUMENT : state ? Check.STATE : null;
  }

  private void refuse(String name, Class<? extends RuntimeException> due, Answers.Recipe call) {
    if (due == null) {
      return;
    }
    names.add(office + ": " + name);
    dues.add(due);
    calls.add(call);
    if (calls.size() == AT_ONCE) {
      flush();
    }
  }

  private void flush() {
    NettedPlans x = new NettedPlans();
    office.tell(x);
    for (int k = 0; k < calls.size(); k++) {
      Answers.Recipe call = calls.get(k);
      check.fails(names.get(k), dues.get(k), () -> call.tell(x));
    }
    check.same("changed by one of " + names, "nothing",
        Answers.difference(before, Answers.of(this::tellWithRefused)));
    names.clear();
    dues.clear();
    calls.clear();
  }

  private void tellWithRefused(NettedPlans x) {
    office.tell(x);
    for (Answers.Recipe call : calls) {
      try {
        call.tell(x);
      } catch (RuntimeException e) {
        continue;
      }
    }
  }

  private void item() {
    // the size of item 1 shows in its plan, that of item 3 does not
    for (int i : new int[] {far ? Integer.MIN_VALUE : -1, 1, 3, far ? Integer.MAX_VALUE : 12}) {
      for (int rule : about(0, 2, 3)) {
        for (int size : about(1, 17, 1000)) {
          for (int lead : about(0, 3, 4)) {
            for (int safety : about(0, 77, 1000)) {
              boolean wrong = isNot(rule, 0, 3) || isNot(size, 1, 1000) || isNot(lead, 0, 4)
                  || isNot(safety, 0, 1000);
              refuse("item(" + i + ", " + rule + ", " + size + ", " + lead + ", " + safety + ")",
                  first(isNot(i, 0, 11), wrong, false), x -> x.item(i, rule, size, lead, safety));
            }
          }
        }
      }
    }
  }

  private void costs() {
    for (int i : items(3)) {
      for (int scrap : about(0, 150, 200)) {
        for (int setup : about(0, 3, 100_000)) {
          for (int hold : about(0, 90, 100)) {
            boolean wrong = isNot(scrap, 0, 200) || isNot(setup, 0, 100_000) || isNot(hold, 0, 100);
            refuse("costs(" + i + ", " + scrap + ", " + setup + ", " + hold + ")",
                first(isNot(i, 0, 11), wrong, false), x -> x.costs(i, scrap, setup, hold));
          }
        }
      }
    }
  }

  private void made() {
    for (int i : items(3)) {
      for (int centre : about(0, 2, 2)) {
        for (int hours : about(0, 7, 9)) {
          refuse("made(" + i + ", " + centre + ", " + hours + ")",
              first(isNot(i, 0, 11) || isNot(centre, 0, 2), isNot(hours, 0, 9), false),
              x -> x.made(i, centre, hours));
        }
      }
    }
  }

  private void line() {
    // an item to itself is a ring in every office
    for (int parent : items(3)) {
      for (int child : items(3)) {
        for (int per : about(0, 4, 9)) {
          for (int from : weeks(4)) {
            for (int to : weeks(6)) {
              line(parent, child, per, from, to);
            }
          }
        }
        line(parent, child, 4, 6, 5);
        line(parent, child, 4, 11, 0);
        if (isNot(parent, 0, 11) || isNot(child, 0, 11)) {
          line(parent, child, 0, 4, 6);
          line(parent, child, 0, 6, 4);
        }
      }
    }
    if (office != Offices.NEW) {
      // the chain of items 0 to 4: rings, levels above 4, and a line there is, with wrong weeks
      for (int parent = 1; parent < 5; parent++) {
        for (int child = 0; child <= parent; child++) {
          line(parent, child, 1, 0, 11);
        }
      }
      line(4, 5, 9, 0, 11);
      line(8, 0, 1, 0, 0);
      line(0, 1, 10, 5, 6);
      line(0, 1, 2, -1, 2);
      line(0, 1, 2, 5, 4);
      line(0, 1, 2, 5, 12);
    }
    if (office.isFull()) {
      line(7, 8, 1, 0, 11);
      line(8, 7, 9, 11, 11);
    }
  }

  /** For lines that are not allowed, whatever their weeks are. */
  private void line(int parent, int child, int per, int from, int to) {
    boolean wrongWeeks = isNot(from, 0, 11) || isNot(to, 0, 11) || from > to;
    refuse("line(" + parent + ", " + child + ", " + per + ", " + from + ", " + to + ")",
        first(isNot(parent, 0, 11) || isNot(child, 0, 11),
            isNot(per, 0, 9) || (per != 0 && wrongWeeks), true),
        x -> x.line(parent, child, per, from, to));
  }

  private void stock() {
    for (int i : items(3)) {
      for (int n : about(0, 99, 10_000)) {
        refuse("stock(" + i + ", " + n + ")", first(isNot(i, 0, 11), isNot(n, 0, 10_000), false),
            x -> x.stock(i, n));
      }
    }
  }

  private void bookings() {
    for (int i : items(3)) {
      for (int w : weeks(2)) {
        for (int n : about(0, 55, 1000)) {
          Class<? extends RuntimeException> due =
              first(isNot(i, 0, 11) || isNot(w, 0, 11), isNot(n, 0, 1000), office.isFull());
          refuse("demand(" + i + ", " + w + ", " + n + ")", due, x -> x.demand(i, w, n));
          refuse("order(" + i + ", " + w + ", " + n + ")", due, x -> x.order(i, w, n));
        }
      }
    }
    if (office.isFull()) {
      refuse("demand of none", Check.STATE, x -> x.demand(0, 0, 0));
      refuse("order of none", Check.STATE, x -> x.order(0, 0, 0));
    }
  }

  private void change() {
    int last = office.bookings() - 1;
    for (int kind : new int[] {far ? Integer.MIN_VALUE : -1, 0, 1, far ? Integer.MAX_VALUE : 2}) {
      for (int number : about(0, last, last)) {
        for (int n : about(0, 55, 1000)) {
          Class<? extends RuntimeException> due = isNot(kind, 0, 1)
              ? Check.ARGUMENT
              : first(isNot(number, 0, last), isNot(n, 0, 1000), false);
          refuse("change(" + kind + ", " + number + ", " + n + ")", due,
              x -> x.change(kind, number, n));
        }
      }
    }
  }

  private void plans() {
    for (int i : items(3)) {
      refuse("level(" + i + ")", first(isNot(i, 0, 11), false, false), x -> x.level(i));
      for (int w : weeks(2)) {
        Class<? extends RuntimeException> due =
            first(isNot(i, 0, 11) || isNot(w, 0, 11), false, !office.isPlanned());
        refuse("gross(" + i + ", " + w + ")", due, x -> x.gross(i, w));
        refuse("planned(" + i + ", " + w + ")", due, x -> x.planned(i, w));
        refuse("balance(" + i + ", " + w + ")", due, x -> x.balance(i, w));
      }
    }
    for (int centre : about(0, 1, 2)) {
      for (int w : weeks(2)) {
        refuse("load(" + centre + ", " + w + ")",
            first(isNot(centre, 0, 2) || isNot(w, 0, 11), false, !office.isPlanned()),
            x -> x.load(centre, w));
      }
    }
  }

  private void peg() {
    int last = office.bookings() - 1;
    for (int demand : about(0, last, last)) {
      for (int number : new int[] {far ? Integer.MIN_VALUE : -1, 0, last, last + 1, 11, 12,
          far ? Integer.MAX_VALUE : 24}) {
        for (int kind : new int[] {far ? Integer.MIN_VALUE : -1, 0, 1, 2,
            far ? Integer.MAX_VALUE : 3}) {
          boolean missing = isNot(demand, 0, last) || (kind == 1 && isNot(number, 0, last))
              || (kind == 2 && isNot(number, 0, 11));
          refuse("peg(" + demand + ", " + kind + ", " + number + ")",
              first(missing, isNot(kind, 0, 2), !office.isPlanned()),
              x -> x.peg(demand, kind, number));
        }
      }
    }
  }

  private void promises() {
    // one of item 6 is TRUE in all weeks, one of item 9 in none
    for (int i : new int[] {far ? Integer.MIN_VALUE : -1, 6, 9, far ? Integer.MAX_VALUE : 12}) {
      for (int w : weeks(2)) {
        for (int n : about(1, 1, 1000)) {
          boolean missing = isNot(i, 0, 11) || isNot(w, 0, 11);
          refuse("promise(" + i + ", " + n + ", " + w + ")",
              first(missing, isNot(n, 1, 1000), !office.isPlanned()), x -> x.promise(i, n, w));
          refuse("reserve(" + i + ", " + n + ", " + w + ")",
              first(missing, isNot(n, 1, 1000), !office.isPlanned() || office.isFull()),
              x -> x.reserve(i, n, w));
        }
      }
    }
  }

  private void giveBack() {
    int last = office.reservations() - 1;
    for (int reservation : about(0, last, last)) {
      refuse("giveBack(" + reservation + ")", first(isNot(reservation, 0, last), false, false),
          x -> x.giveBack(reservation));
    }
  }

  private void counts() {
    refuse("count(4)", first(false, false, !office.isPlanned()), x -> x.count(4));
  }
}
