/** Objects in states of all kinds, which can be made again and again in the same way. */
enum Offices {
  NEW {
    @Override
    void tell(NettedPlans x) {}
  },

  /** Three bookings of each kind or more, and a plan of them. */
  PLANNED {
    @Override
    void tell(NettedPlans x) {
      tellData(x);
      tellBookings(x);
      x.replan();
      reserveSome(x);
    }
  },

  /** The same, but item 7 was told since. */
  TOLD {
    @Override
    void tell(NettedPlans x) {
      PLANNED.tell(x);
      x.stock(7, 5);
    }
  },

  /** 24 of all that may be 24, and a plan of them. */
  FULL {
    @Override
    void tell(NettedPlans x) {
      tellData(x);
      tellBookings(x);
      fillLines(x);
      fillBookings(x);
      x.replan();
      reserveSome(x);
      while (x.count(3) < 24) {
        x.reserve(6, 1, x.count(3) % 12);
      }
    }
  },

  /** The same, but item 7 was told since. */
  FULL_AND_TOLD {
    @Override
    void tell(NettedPlans x) {
      FULL.tell(x);
      x.stock(7, 5);
    }
  };

  abstract void tell(NettedPlans x);

  boolean isPlanned() {
    return this == PLANNED || this == FULL;
  }

  boolean isFull() {
    return this == FULL || this == FULL_AND_TOLD;
  }

  /** How many demands there are, and as many orders. */
  int bookings() {
    return this == NEW ? 0 : isFull() ? 24 : 6;
  }

  int reservations() {
    return this == NEW ? 0 : isFull() ? 24 : 3;
  }

  /** Items 0 to 4 are a chain of all five levels. */
  private static void tellData(NettedPlans x) {
    x.item(0, 0, 1, 2, 5);
    x.item(1, 1, 50, 1, 0);
    x.item(2, 2, 3, 0, 10);
    x.item(3, 3, 1, 1, 0);
    x.item(4, 0, 1, 4, 0);
    x.costs(1, 100, 0, 0);
    x.costs(2, 7, 10, 1);
    x.costs(3, 50, 1000, 5);
    x.made(0, 1, 3);
    x.made(1, 2, 4);
    x.made(3, 0, 9);
    x.line(0, 1, 3, 0, 11);
    x.line(1, 2, 2, 1, 9);
    x.line(2, 3, 1, 0, 11);
    x.line(0, 3, 2, 0, 11);
    x.line(3, 4, 1, 0, 11);
    x.stock(0, 12);
    x.stock(1, 30);
    x.stock(5, 40);
    x.stock(6, 500);
  }

  private static void tellBookings(NettedPlans x) {
    x.demand(0, 1, 10);
    x.demand(0, 5, 20);
    x.demand(1, 3, 7);
    x.demand(3, 9, 11);
    x.demand(3, 9, 12);
    x.demand(5, 0, 13);
    x.order(1, 4, 25);
    x.order(3, 9, 6);
    x.order(3, 9, 5);
    x.order(5, 2, 9);
    x.order(0, 5, 4);
    x.order(6, 11, 8);
  }

  private static void reserveSome(NettedPlans x) {
    x.reserve(5, 10, 3);
    x.reserve(6, 100, 0);
    x.reserve(5, 4, 11);
    x.giveBack(1);
  }

  private static void fillLines(NettedPlans x) {
    for (int parent = 0; parent < 9; parent++) {
      for (int child = 9; child < 12 && (parent < 3 || parent > 4); child++) {
        if (x.count(0) < 24) {
          x.line(parent, child, 1 + parent % 3, 0, 11);
        }
      }
    }
  }

  private static void fillBookings(NettedPlans x) {
    for (int k = 6; k < 24; k++) {
      x.demand(k % 12, k % 7, k);
      x.order(k % 9, k % 5, k);
    }
  }
}
