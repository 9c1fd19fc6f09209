import java.util.Arrays;

/**
 * A planning office: bills of material, needs netted by levels against stock and orders, lots by
 * four rules, each demand pegged to what serves it, weeks promised and reserved, hours of work
 * centres.
 */
public final class NettedPlans {
  public static final int NONE = -1;

  private static final int ITEMS = 12;
  private static final int WEEKS = 12;
  private static final int CENTRES = 3;
  private static final int MOST_LINES = 24;
  private static final int MOST_BOOKED = 24;
  private static final int TOP_LEVEL = 4;
  private static final int MOST_STOCK = 10_000;
  private static final int MOST_QUANTITY = 1000;

  private static final int RULE_MULTIPLE = 1;
  private static final int RULE_PERIOD = 2;
  private static final int RULE_CHEAPEST = 3;
  private static final int LAST_RULE = 3;

  private final Item[] items = new Item[ITEMS];
  private final Bill bill = new Bill();
  private final Book demands = new Book();
  private final Book orders = new Book();
  private final Book reservations = new Book();
  private final Netting netting = new Netting();
  private final long[] asked = new long[WEEKS];
  private final long[] brought = new long[WEEKS];

  public NettedPlans() {
    for (int i = 0; i < ITEMS; i++) {
      items[i] = new Item();
    }
  }

  public void item(int item, int rule, int size, int lead, int safety)
      throws IndexOutOfBoundsException, IllegalArgumentException {
    Item known = known(item);
    checkRange(rule, 0, LAST_RULE);
    checkRange(size, 1, 1000);
    checkRange(lead, 0, 4);
    checkRange(safety, 0, 1000);
    known.rule = rule;
    known.size = size;
    known.lead = lead;
    known.safety = safety;
    known.told = true;
  }

  public void costs(int item, int scrap, int setup, int hold)
      throws IndexOutOfBoundsException, IllegalArgumentException {
    Item known = known(item);
    checkRange(scrap, 0, 200);
    checkRange(setup, 0, 100_000);
    checkRange(hold, 0, 100);
    known.scrap = scrap;
    known.setup = setup;
    known.hold = hold;
    known.told = true;
  }

  public void made(int item, int centre, int hours)
      throws IndexOutOfBoundsException, IllegalArgumentException {
    Item known = known(item);
    checkCentre(centre);
    checkRange(hours, 0, 9);
    known.centre = centre;
    known.hours = hours;
  }

  public void line(int parent, int child, int per, int from, int to)
      throws IndexOutOfBoundsException, IllegalArgumentException, IllegalStateException {
    checkItem(parent);
    Item part = known(child);
    checkRange(per, 0, 9);
    int place = Bill.place(parent, child);
    if (per == 0) {
      bill.drop(place);
    } else {
      checkRange(from, 0, WEEKS - 1);
      checkRange(to, from, WEEKS - 1);
      if (!bill.fits(place)) {
        throw new IllegalStateException("no place for such a line");
      }
      bill.put(place, per, from, to);
    }
    part.told = true;
  }

  public int stock(int item, int n) throws IndexOutOfBoundsException, IllegalArgumentException {
    Item known = known(item);
    checkRange(n, 0, MOST_STOCK);
    int before = known.stock;
    known.stock = n;
    known.told = true;
    return before;
  }

  public int demand(int item, int week, int n)
      throws IndexOutOfBoundsException, IllegalArgumentException, IllegalStateException {
    return tellNew(demands, item, week, n);
  }

  public int change(int kind, int number, int n)
      throws IllegalArgumentException, IndexOutOfBoundsException {
    checkRange(kind, 0, 1);
    Book book = kind == 0 ? demands : orders;
    checkNumber(book, number);
    checkRange(n, 0, MOST_QUANTITY);
    known(book.items[number]).told = true;
    return book.exchange(number, n);
  }

  public int order(int item, int week, int n)
      throws IndexOutOfBoundsException, IllegalArgumentException, IllegalStateException {
    return tellNew(orders, item, week, n);
  }

  public int replan() {
    int netted = 0;
    for (int level = 0; level <= TOP_LEVEL; level++) {
      for (int i = 0; i < ITEMS; i++) {
        if (bill.levels[i] == level && planAnew(i)) {
          netted++;
        }
      }
    }
    return netted;
  }

  public int level(int item) throws IndexOutOfBoundsException {
    checkItem(item);
    return bill.levels[item];
  }

  public long gross(int item, int week) throws IndexOutOfBoundsException, IllegalStateException {
    Item known = known(item);
    checkWeek(week);
    checkPlanned();
    return known.gross[week];
  }

  public long planned(int item, int week) throws IndexOutOfBoundsException, IllegalStateException {
    Item known = known(item);
    checkWeek(week);
    checkPlanned();
    return known.planned[week];
  }

  public long balance(int item, int week) throws IndexOutOfBoundsException, IllegalStateException {
    Item known = known(item);
    checkWeek(week);
    checkPlanned();
    return known.balance[week];
  }

  public long peg(int demand, int kind, int number)
      throws IndexOutOfBoundsException, IllegalArgumentException, IllegalStateException {
    checkNumber(demands, demand);
    if (kind == 1) {
      checkNumber(orders, number);
    } else if (kind == 2) {
      checkWeek(number);
    }
    checkRange(kind, 0, 2);
    checkPlanned();
    switch (kind) {
      case 1:
        return pegOfOrder(demand, number);
      case 2:
        return pegOfReceipt(demand, number);
      default:
        return pegOfUnits(demand, 0, known(demands.items[demand]).stock);
    }
  }

  public int promise(int item, int n, int week)
      throws IndexOutOfBoundsException, IllegalArgumentException, IllegalStateException {
    checkItem(item);
    checkWeek(week);
    checkRange(n, 1, MOST_QUANTITY);
    checkPlanned();
    return leastTrueWeek(item, n, week);
  }

  public int reserve(int item, int n, int week)
      throws IndexOutOfBoundsException, IllegalArgumentException, IllegalStateException {
    checkItem(item);
    checkWeek(week);
    checkRange(n, 1, MOST_QUANTITY);
    checkPlanned();
    checkRoom(reservations);
    if (leastTrueWeek(item, n, week) != week) {
      return NONE;
    }
    return reservations.add(item, week, n);
  }

  public int giveBack(int reservation) throws IndexOutOfBoundsException {
    checkNumber(reservations, reservation);
    return reservations.exchange(reservation, 0);
  }

  public long load(int centre, int week) throws IndexOutOfBoundsException, IllegalStateException {
    checkCentre(centre);
    checkWeek(week);
    checkPlanned();
    long hours = 0;
    for (int i = 0; i < ITEMS; i++) {
      if (items[i].centre == centre) {
        hours += items[i].hours * items[i].startedIn(week);
      }
    }
    return hours;
  }

  public int count(int what) throws IllegalStateException {
    switch (what) {
      case 0:
        return bill.lines;
      case 1:
        return demands.size;
      case 2:
        return orders.size;
      case 3:
        return reservations.size;
      case 4:
        checkPlanned();
        return itemsRunShort();
      case 5:
        return isTold() ? 1 : 0;
      default:
        return NONE;
    }
  }

  private static void checkItem(int item) {
    if (item < 0 || item >= ITEMS) {
      throw new IndexOutOfBoundsException("no such item");
    }
  }

  private Item known(int item) {
    checkItem(item);
    return items[item];
  }

  private static void checkWeek(int week) {
    if (week < 0 || week >= WEEKS) {
      throw new IndexOutOfBoundsException("no such week");
    }
  }

  private static void checkCentre(int centre) {
    if (centre < 0 || centre >= CENTRES) {
      throw new IndexOutOfBoundsException("no such centre");
    }
  }

  private static void checkNumber(Book book, int number) {
    if (number < 0 || number >= book.size) {
      throw new IndexOutOfBoundsException("no such number");
    }
  }

  private static void checkRange(int value, int least, int most) {
    if (value < least || value > most) {
      throw new IllegalArgumentException("a value out of its range");
    }
  }

  private static void checkRoom(Book book) {
    if (book.isFull()) {
      throw new IllegalStateException("the book is full");
    }
  }

  private void checkPlanned() {
    if (isTold()) {
      throw new IllegalStateException("something was told since the last replanning");
    }
  }

  /** Each item counts as told at first, so that a new object has no plan to ask for. */
  private boolean isTold() {
    for (int i = 0; i < ITEMS; i++) {
      if (items[i].told) {
        return true;
      }
    }
    return false;
  }

  private int tellNew(Book book, int item, int week, int n) {
    Item known = known(item);
    checkWeek(week);
    checkRange(n, 0, MOST_QUANTITY);
    checkRoom(book);
    known.told = true;
    return book.add(item, week, n);
  }

  /** Whether the item had to be netted: without that, its plan would come out as it is. */
  private boolean planAnew(int number) {
    Item item = items[number];
    collectGross(number);
    if (!item.told && item.hasGross(asked)) {
      return false;
    }
    System.arraycopy(asked, 0, item.gross, 0, WEEKS);
    Arrays.fill(brought, 0);
    orders.addTo(brought, number);
    netting.net(item, brought);
    item.told = false;
    return true;
  }

  private void collectGross(int number) {
    Arrays.fill(asked, 0);
    demands.addTo(asked, number);
    for (int parent = 0; parent < ITEMS; parent++) {
      askForParts(parent, number);
    }
  }

  private void askForParts(int parent, int child) {
    int place = Bill.place(parent, child);
    if (bill.per[place] == 0) {
      return;
    }
    Item maker = items[parent];
    for (int w = 0; w < WEEKS; w++) {
      if (w >= bill.from[place] && w <= bill.to[place]) {
        asked[w] += items[child].withScrap(maker.startedIn(w) * bill.per[place]);
      }
    }
  }

  private long pegOfOrder(int demand, int number) {
    int item = orders.items[number];
    if (item != demands.items[demand]) {
      return 0;
    }
    int lastWeek = orders.weeks[number] - 1;
    long start = known(item).stock + orders.upTo(item, lastWeek) + orders.ahead(number)
        + sumUpTo(items[item].planned, lastWeek);
    return pegOfUnits(demand, start, orders.quantities[number]);
  }

  private long pegOfReceipt(int demand, int week) {
    int item = demands.items[demand];
    long start = known(item).stock + orders.upTo(item, week)
        + sumUpTo(items[item].planned, week - 1);
    return pegOfUnits(demand, start, items[item].planned[week]);
  }

  /**
   * The units of an item's supplies are numbered from 0 in their order, as are those of its claims:
   * a unit of a supply goes to the unit of a claim that has its number.
   */
  private long pegOfUnits(int demand, long start, long n) {
    long claimed = sumUpTo(known(demands.items[demand]).gross, demands.weeks[demand] - 1)
        + demands.ahead(demand);
    long first = Math.max(start, claimed);
    long end = Math.min(start + n, claimed + demands.quantities[demand]);
    return Math.max(end - first, 0);
  }

  private static long sumUpTo(long[] row, int week) {
    long sum = 0;
    for (int w = 0; w < WEEKS && w <= week; w++) {
      sum += row[w];
    }
    return sum;
  }

  /** A quantity that is TRUE for a week is so for those behind it: so they are tried backwards. */
  private int leastTrueWeek(int item, int n, int week) {
    int least = NONE;
    for (int v = WEEKS - 1; v >= week; v--) {
      if (known(item).balance[v] - reservations.upTo(item, v) < n) {
        break;
      }
      least = v;
    }
    return least;
  }

  private int itemsRunShort() {
    int n = 0;
    for (int i = 0; i < ITEMS; i++) {
      if (items[i].runsShort()) {
        n++;
      }
    }
    return n;
  }

  /** What is told of an item, and its plan. */
  private static final class Item {
    int rule;
    int size = 1;
    int lead;
    int safety;
    int scrap;
    int setup;
    int hold;
    int stock;
    int centre;
    int hours;
    boolean told = true;
    final long[] gross = new long[WEEKS];
    final long[] planned = new long[WEEKS];
    final long[] balance = new long[WEEKS];

    /** The receipt whose making starts in a week. */
    long startedIn(int week) {
      int receipt = week + lead;
      return receipt >= 0 && receipt < WEEKS ? planned[receipt] : 0;
    }

    long withScrap(long n) {
      return (n * (1000 + scrap) + 999) / 1000;
    }

    boolean hasGross(long[] row) {
      for (int w = 0; w < WEEKS; w++) {
        if (gross[w] != row[w]) {
          return false;
        }
      }
      return true;
    }

    boolean runsShort() {
      for (int w = 0; w < WEEKS; w++) {
        if (balance[w] < 0) {
          return true;
        }
      }
      return false;
    }
  }

  /** The lines, each at the place of its parent and child, and the levels that they make. */
  private static final class Bill {
    final int[] per = new int[ITEMS * ITEMS];
    final int[] from = new int[ITEMS * ITEMS];
    final int[] to = new int[ITEMS * ITEMS];
    final int[] levels = new int[ITEMS];
    private final int[] trial = new int[ITEMS];
    int lines;

    static int place(int parent, int child) {
      return parent * ITEMS + child;
    }

    /** A line in place of another one leaves the levels as they are. */
    boolean fits(int place) {
      return per[place] > 0 || (lines < MOST_LINES && highestLevel(place) <= TOP_LEVEL);
    }

    void put(int place, int newPer, int newFrom, int newTo) {
      if (per[place] == 0) {
        lines++;
      }
      per[place] = newPer;
      from[place] = newFrom;
      to[place] = newTo;
      setLevels();
    }

    void drop(int place) {
      if (per[place] > 0) {
        lines--;
      }
      per[place] = 0;
      setLevels();
    }

    private void setLevels() {
      highestLevel(NONE);
      System.arraycopy(trial, 0, levels, 0, ITEMS);
    }

    /**
     * The highest level if there were a line more. Each round lifts the items of a ring at least
     * once more, so a ring is above the top level, too, at the end.
     */
    private int highestLevel(int more) {
      int highest = 0;
      Arrays.fill(trial, 0);
      for (int round = 0; round <= TOP_LEVEL; round++) {
        for (int parent = 0; parent < ITEMS; parent++) {
          for (int child = 0; child < ITEMS; child++) {
            int place = place(parent, child);
            if (place == more || per[place] > 0) {
              trial[child] = Math.max(trial[child], trial[parent] + 1);
              highest = Math.max(highest, trial[child]);
            }
          }
        }
      }
      return highest;
    }
  }

  /** Demands, orders or reservations by their numbers. */
  private static final class Book {
    final int[] items = new int[MOST_BOOKED];
    final int[] weeks = new int[MOST_BOOKED];
    final int[] quantities = new int[MOST_BOOKED];
    int size;

    boolean isFull() {
      return size >= MOST_BOOKED;
    }

    int add(int item, int week, int n) {
      if (isFull()) {
        return NONE;
      }
      items[size] = item;
      weeks[size] = week;
      quantities[size] = n;
      size++;
      return size - 1;
    }

    int exchange(int number, int n) {
      int before = quantities[number];
      quantities[number] = n;
      return before;
    }

    void addTo(long[] row, int item) {
      for (int k = 0; k < size; k++) {
        if (items[k] == item) {
          row[weeks[k]] += quantities[k];
        }
      }
    }

    long upTo(int item, int week) {
      long sum = 0;
      for (int k = 0; k < size; k++) {
        if (items[k] == item && weeks[k] <= week) {
          sum += quantities[k];
        }
      }
      return sum;
    }

    /** What stands before a number in its own item and week. */
    long ahead(int number) {
      long sum = 0;
      for (int k = 0; k < number; k++) {
        if (items[k] == items[number] && weeks[k] == weeks[number]) {
          sum += quantities[k];
        }
      }
      return sum;
    }
  }

  /** Nets one item after the other in rows that are used again. */
  private static final class Netting {
    private final long[] bare = new long[WEEKS];
    private final long[] need = new long[WEEKS];
    private final long[] best = new long[WEEKS + 1];
    private final int[] lastOfLot = new int[WEEKS];

    void net(Item item, long[] brought) {
      findNeeds(item, brought);
      if (item.rule == RULE_CHEAPEST) {
        findCheapestLots(item);
      }
      long got = 0;
      for (int w = 0; w < WEEKS; w++) {
        item.planned[w] = need[w] > got ? lot(item, w, got) : 0;
        got += item.planned[w];
        item.balance[w] = bare[w] + got;
      }
    }

    private void findNeeds(Item item, long[] brought) {
      long left = item.stock;
      long most = 0;
      for (int w = 0; w < WEEKS; w++) {
        left += brought[w] - item.gross[w];
        bare[w] = left;
        most = Math.max(most, item.safety - left);
        need[w] = w < item.lead ? 0 : most;
      }
    }

    private long lot(Item item, int w, long got) {
      switch (item.rule) {
        case RULE_MULTIPLE:
          return leastMultiple(item.size, need[w] - got);
        case RULE_PERIOD:
          return need[Math.min(w + item.size - 1, WEEKS - 1)] - got;
        case RULE_CHEAPEST:
          return need[lastOfLot[w]] - got;
        default:
          return need[w] - got;
      }
    }

    private static long leastMultiple(int size, long n) {
      return size < 1 ? n : (n + size - 1) / size * size;
    }

    private void findCheapestLots(Item item) {
      best[WEEKS] = 0;
      for (int w = WEEKS - 1; w >= 0; w--) {
        if (need[w] == needBefore(w)) {
          best[w] = best[w + 1];
        } else {
          findCheapestLot(item, w);
        }
      }
    }

    private long needBefore(int w) {
      return w < 1 ? 0 : need[w - 1];
    }

    private void findCheapestLot(Item item, int w) {
      long waiting = 0;
      for (int j = w; j < WEEKS; j++) {
        waiting += (j - w) * (need[j] - needBefore(j));
        long sum = item.setup + item.hold * waiting + best[j + 1];
        if (j == w || sum < best[w]) {
          best[w] = sum;
          lastOfLot[w] = j;
        }
      }
    }
  }
}
