import java.util.ArrayList;
import java.util.HashMap;
import java.util.List;
import java.util.Map;

/** The document's words, taken one by one and without a thought of speed. */
final class Model {
  static final int N = 12;

  private static final class Booked {
    final int item;
    final int week;
    int n;

    Booked(int item, int week, int n) {
      this.item = item;
      this.week = week;
      this.n = n;
    }
  }

  private static final class Supply {
    final String name;
    long left;

    Supply(String name, long left) {
      this.name = name;
      this.left = left;
    }
  }

  // rule, size, lead, safety, scrap, setup, hold, stock, centre, hours
  private final int[][] data = new int[N][];
  private final Map<Integer, int[]> lines = new HashMap<>();
  private final List<Booked> demands = new ArrayList<>();
  private final List<Booked> orders = new ArrayList<>();
  private final List<Booked> reservations = new ArrayList<>();
  private final boolean[] toldOf = new boolean[N];
  private boolean told = true;
  private boolean first = true;
  private long[][] gross = new long[N][N];
  private long[][] planned = new long[N][N];
  private long[][] bare = new long[N][N];

  Model() {
    for (int i = 0; i < N; i++) {
      data[i] = new int[] {0, 1, 0, 0, 0, 0, 0, 0, 0, 0};
    }
  }

  private static void index(int x, int size) {
    if (x < 0 || x >= size) {
      throw new IndexOutOfBoundsException();
    }
  }

  private static void argument(boolean fine) {
    if (!fine) {
      throw new IllegalArgumentException();
    }
  }

  private static void state(boolean fine) {
    if (!fine) {
      throw new IllegalStateException();
    }
  }

  private static boolean in(int x, int least, int most) {
    return least <= x && x <= most;
  }

  private void tell(int item) {
    toldOf[item] = true;
    told = true;
  }

  void item(int item, int rule, int size, int lead, int safety) {
    index(item, N);
    argument(in(rule, 0, 3) && in(size, 1, 1000) && in(lead, 0, 4) && in(safety, 0, 1000));
    data[item][0] = rule;
    data[item][1] = size;
    data[item][2] = lead;
    data[item][3] = safety;
    tell(item);
  }

  void costs(int item, int scrap, int setup, int hold) {
    index(item, N);
    argument(in(scrap, 0, 200) && in(setup, 0, 100000) && in(hold, 0, 100));
    data[item][4] = scrap;
    data[item][5] = setup;
    data[item][6] = hold;
    tell(item);
  }

  void made(int item, int centre, int hours) {
    index(item, N);
    index(centre, 3);
    argument(in(hours, 0, 9));
    data[item][8] = centre;
    data[item][9] = hours;
  }

  void line(int parent, int child, int per, int from, int to) {
    index(parent, N);
    index(child, N);
    argument(in(per, 0, 9));
    argument(per == 0 || (in(from, 0, 11) && in(to, 0, 11) && from <= to));
    int key = parent * 100 + child;
    if (per == 0) {
      lines.remove(key);
    } else {
      boolean isNew = !lines.containsKey(key);
      state(!isNew || lines.size() < 24);
      state(!leads(child, parent));
      int[] before = lines.put(key, new int[] {parent, child, per, from, to});
      for (int i = 0; i < N; i++) {
        if (levelOf(i) > 4) {
          if (before == null) {
            lines.remove(key);
          } else {
            lines.put(key, before);
          }
          throw new IllegalStateException();
        }
      }
    }
    tell(child);
  }

  private boolean leads(int from, int to) {
    if (from == to) {
      return true;
    }
    for (int[] line : lines.values()) {
      if (line[0] == from && leads(line[1], to)) {
        return true;
      }
    }
    return false;
  }

  private int levelOf(int item) {
    int level = 0;
    for (int[] line : lines.values()) {
      if (line[1] == item) {
        level = Math.max(level, levelOf(line[0]) + 1);
      }
    }
    return level;
  }

  int stock(int item, int n) {
    index(item, N);
    argument(in(n, 0, 10000));
    int before = data[item][7];
    data[item][7] = n;
    tell(item);
    return before;
  }

  int demand(int item, int week, int n) {
    return book(demands, item, week, n);
  }

  int order(int item, int week, int n) {
    return book(orders, item, week, n);
  }

  private int book(List<Booked> list, int item, int week, int n) {
    index(item, N);
    index(week, N);
    argument(in(n, 0, 1000));
    state(list.size() < 24);
    list.add(new Booked(item, week, n));
    tell(item);
    return list.size() - 1;
  }

  int change(int kind, int number, int n) {
    argument(kind == 0 || kind == 1);
    List<Booked> list = kind == 0 ? demands : orders;
    index(number, list.size());
    argument(in(n, 0, 1000));
    Booked booked = list.get(number);
    int before = booked.n;
    booked.n = n;
    tell(booked.item);
    return before;
  }

  int replan() {
    long[][] before = gross;
    gross = new long[N][N];
    planned = new long[N][N];
    bare = new long[N][N];
    int netted = 0;
    for (int level = 0; level <= 4; level++) {
      for (int i = 0; i < N; i++) {
        if (levelOf(i) == level) {
          net(i);
          boolean differs = false;
          for (int w = 0; w < N; w++) {
            differs |= gross[i][w] != before[i][w];
          }
          if (first || toldOf[i] || differs) {
            netted++;
          }
        }
      }
    }
    for (int i = 0; i < N; i++) {
      toldOf[i] = false;
    }
    first = false;
    told = false;
    return netted;
  }

  private void net(int i) {
    for (int w = 0; w < N; w++) {
      gross[i][w] = grossOf(i, w);
    }
    for (int w = 0; w < N; w++) {
      long sum = data[i][7];
      for (Booked order : orders) {
        sum += order.item == i && order.week <= w ? order.n : 0;
      }
      for (int v = 0; v <= w; v++) {
        sum -= gross[i][v];
      }
      bare[i][w] = sum;
    }
    int size = data[i][1];
    for (int w = data[i][2]; w < N; w++) {
      long got = got(i, w - 1);
      long n = need(i, w) - got;
      if (n > 0) {
        long q;
        if (data[i][0] == 0) {
          q = n;
        } else if (data[i][0] == 1) {
          q = size;
          while (q < n) {
            q += size;
          }
        } else if (data[i][0] == 2) {
          q = need(i, w + size - 1 > 11 ? 11 : w + size - 1) - got;
        } else {
          q = need(i, cheapest(i, w)) - got;
        }
        planned[i][w] = q;
      }
    }
  }

  private long grossOf(int i, int w) {
    long sum = 0;
    for (Booked demand : demands) {
      sum += demand.item == i && demand.week == w ? demand.n : 0;
    }
    for (int[] line : lines.values()) {
      for (int r = 0; line[1] == i && r < N; r++) {
        if (r - data[line[0]][2] == w && w >= line[3] && w <= line[4]) {
          long x = planned[line[0]][r] * line[2] * (1000 + data[i][4]);
          sum += x % 1000 == 0 ? x / 1000 : x / 1000 + 1;
        }
      }
    }
    return sum;
  }

  private long got(int i, int w) {
    long sum = 0;
    for (int v = 0; v <= w; v++) {
      sum += planned[i][v];
    }
    return sum;
  }

  private long need(int i, int w) {
    long most = 0;
    for (int v = 0; w >= data[i][2] && v <= w; v++) {
      most = Math.max(most, data[i][3] - bare[i][v]);
    }
    return most;
  }

  private long costOf(int i, int w, int j) {
    long sum = 0;
    for (int k = w + 1; k <= j; k++) {
      sum += (k - w) * (need(i, k) - need(i, k - 1));
    }
    return data[i][5] + data[i][6] * sum;
  }

  private long[] bests(int i) {
    long[] best = new long[N + 1];
    for (int w = N - 1; w >= data[i][2]; w--) {
      if (need(i, w) == need(i, w - 1)) {
        best[w] = best[w + 1];
      } else {
        best[w] = Long.MAX_VALUE;
        for (int j = w; j < N; j++) {
          best[w] = Math.min(best[w], costOf(i, w, j) + best[j + 1]);
        }
      }
    }
    return best;
  }

  private int cheapest(int i, int w) {
    long[] best = bests(i);
    int j = w;
    while (costOf(i, w, j) + best[j + 1] != best[w]) {
      j++;
    }
    return j;
  }

  int level(int item) {
    index(item, N);
    return levelOf(item);
  }

  long gross(int item, int week) {
    index(item, N);
    index(week, N);
    state(!told);
    return gross[item][week];
  }

  long planned(int item, int week) {
    index(item, N);
    index(week, N);
    state(!told);
    return planned[item][week];
  }

  long balance(int item, int week) {
    index(item, N);
    index(week, N);
    state(!told);
    return bare[item][week] + got(item, week);
  }

  long peg(int demand, int kind, int number) {
    index(demand, demands.size());
    if (kind == 1) {
      index(number, orders.size());
    }
    if (kind == 2) {
      index(number, N);
    }
    argument(in(kind, 0, 2));
    state(!told);
    String name = kind == 0 ? "stock" : kind == 1 ? "order " + number : "week " + number;
    return pegs(demand).getOrDefault(name, 0L);
  }

  /** Hands out supplies claim by claim, and keeps what the one demand took. */
  private Map<String, Long> pegs(int demand) {
    int item = demands.get(demand).item;
    List<Supply> supplies = new ArrayList<>();
    supplies.add(new Supply("stock", data[item][7]));
    for (int w = 0; w < N; w++) {
      for (int k = 0; k < orders.size(); k++) {
        if (orders.get(k).item == item && orders.get(k).week == w) {
          supplies.add(new Supply("order " + k, orders.get(k).n));
        }
      }
      supplies.add(new Supply("week " + w, planned[item][w]));
    }
    Map<String, Long> pegs = new HashMap<>();
    for (int w = 0; w < N; w++) {
      long lines = gross[item][w];
      for (int k = 0; k < demands.size(); k++) {
        if (demands.get(k).item == item && demands.get(k).week == w) {
          lines -= demands.get(k).n;
          take(supplies, demands.get(k).n, k == demand ? pegs : new HashMap<>());
        }
      }
      take(supplies, lines, new HashMap<>());
    }
    return pegs;
  }

  private static void take(List<Supply> supplies, long n, Map<String, Long> pegs) {
    for (Supply supply : supplies) {
      long taken = Math.min(supply.left, n);
      supply.left -= taken;
      n -= taken;
      pegs.put(supply.name, taken);
    }
  }

  private boolean isTrue(int item, int n, int week) {
    for (int v = week; v < N; v++) {
      long free = bare[item][v] + got(item, v);
      for (Booked reservation : reservations) {
        free -= reservation.item == item && reservation.week <= v ? reservation.n : 0;
      }
      if (free < n) {
        return false;
      }
    }
    return true;
  }

  int promise(int item, int n, int week) {
    index(item, N);
    index(week, N);
    argument(in(n, 1, 1000));
    state(!told);
    for (int w = week; w < N; w++) {
      if (isTrue(item, n, w)) {
        return w;
      }
    }
    return -1;
  }

  int reserve(int item, int n, int week) {
    index(item, N);
    index(week, N);
    argument(in(n, 1, 1000));
    state(!told);
    state(reservations.size() < 24);
    if (!isTrue(item, n, week)) {
      return -1;
    }
    reservations.add(new Booked(item, week, n));
    return reservations.size() - 1;
  }

  int giveBack(int reservation) {
    index(reservation, reservations.size());
    int before = reservations.get(reservation).n;
    reservations.get(reservation).n = 0;
    return before;
  }

  long load(int centre, int week) {
    index(centre, 3);
    index(week, N);
    state(!told);
    long sum = 0;
    for (int i = 0; i < N; i++) {
      for (int r = 0; r < N; r++) {
        if (data[i][8] == centre && r - data[i][2] == week) {
          sum += data[i][9] * planned[i][r];
        }
      }
    }
    return sum;
  }

  int count(int what) {
    if (what == 4) {
      state(!told);
      int n = 0;
      for (int i = 0; i < N; i++) {
        boolean below = false;
        for (int w = 0; w < N; w++) {
          below |= bare[i][w] + got(i, w) < 0;
        }
        n += below ? 1 : 0;
      }
      return n;
    }
    int[] counts = {lines.size(), demands.size(), orders.size(), reservations.size(), 0, told ? 1 : 0};
    return in(what, 0, 5) ? counts[what] : -1;
  }
}
