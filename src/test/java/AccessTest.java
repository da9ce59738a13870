/** Promise 2, and paragraph 7: the processor's queue. */
public final class AccessTest {
  private static final Check check = new Check("AccessTest");

  public static void main(String[] args) {
    refusesWrongInputs();
    takesEdges();
    holdsEight();
    refusedWhenFullLeavesAllAsItWas();
    refusedInputsLeaveTheQueueAsItWas();
    staysFull();
    emptyQueueWantsNoSlot();
    doesThemInTheirOrder();
    keepsLowestBits();
    goesRoundAndRound();
    writesToOthersDoNothing();
    check.end();
  }

  private static void refusesWrongInputs() {
    SlotBoard board = new SlotBoard();
    int[] wrongKinds = {-1, 3, 4, Integer.MIN_VALUE, Integer.MAX_VALUE};
    for (int kind : wrongKinds) check.due("kind " + kind, board.access(kind, 0, 1), false);
    int[] wrongAddresses = {-1, 256, Integer.MIN_VALUE, Integer.MAX_VALUE};
    for (int a : wrongAddresses) {
      check.due("STORE at " + a, board.access(0, a, 1), false);
      check.due("LOAD from " + a, board.access(1, a, 1), false);
    }
    int[] wrongRegisters = {-1, 32, 33, 255, 256, Integer.MIN_VALUE, Integer.MAX_VALUE};
    for (int r : wrongRegisters) check.due("WRITE to " + r, board.access(2, r, 1), false);
    check.due("look(4)", board.look(4), 0);
    board.run(40);
    check.due("slots(5)", board.slots(5), 0);
    check.due("look(6)", board.look(6), 0);
  }

  private static void takesEdges() {
    SlotBoard board = new SlotBoard();
    check.due("STORE at 0", board.access(0, 0, 11), true);
    check.due("STORE at 255", board.access(0, 255, 12), true);
    check.due("STORE at 32", board.access(0, 32, 13), true);
    check.due("LOAD from 0", board.access(1, 0, 0), true);
    check.due("LOAD from 255", board.access(1, 255, 0), true);
    check.due("WRITE to 0", board.access(2, 0, 8), true);
    check.due("WRITE to 31", board.access(2, 31, 0), true);
    check.due("look(4)", board.look(4), 7);
    board.run(10);
    check.due("word(0)", board.word(0), 11);
    check.due("word(255)", board.word(255), 12);
    check.due("word(32)", board.word(32), 13);
    check.due("look(5)", board.look(5), 12);
    check.due("look(6)", board.look(6), 2);
    check.due("register(0)", board.register(0), 8);
    check.due("slots(5)", board.slots(5), 7);
    check.due("look(4) at the end", board.look(4), 0);
  }

  private static void holdsEight() {
    SlotBoard board = new SlotBoard();
    for (int i = 0; i < 8; i++) check.due("access " + i, board.access(0, i, 100 + i), true);
    for (int kind = 0; kind < 3; kind++) check.due("access of kind " + kind, board.access(kind, 20, 1), false);
    check.due("look(4)", board.look(4), 8);
    board.run(1);
    check.due("access while none is done", board.access(0, 20, 1), false);
    board.run(1);
    check.due("look(4) behind one", board.look(4), 7);
    check.due("access behind one", board.access(0, 21, 1), true);
    check.due("one more", board.access(0, 22, 1), false);
    board.run(20);
    for (int i = 0; i < 8; i++) check.due("word(" + i + ")", board.word(i), 100 + i);
    check.due("word(20)", board.word(20), 0);
    check.due("word(21)", board.word(21), 1);
    check.due("word(22)", board.word(22), 0);
    check.due("slots(5)", board.slots(5), 9);
  }

  /** Each kind is refused at eight, and neither its turn nor a later one ever does it. */
  private static void refusedWhenFullLeavesAllAsItWas() {
    SlotBoard board = new SlotBoard();
    for (int i = 0; i < 8; i++) board.access(0, i, 100 + i);
    check.due("a ninth STORE", board.access(0, 0, 9), false);
    check.due("a ninth LOAD", board.access(1, 0, 9), false);
    check.due("a ninth WRITE", board.access(2, 20, 9), false);
    check.due("a ninth of a wrong kind", board.access(3, 0, 9), false);
    check.due("a ninth at a wrong address", board.access(0, 256, 9), false);
    board.run(40);
    for (int i = 0; i < 8; i++) check.due("word(" + i + ")", board.word(i), 100 + i);
    check.due("look(4)", board.look(4), 0);
    check.due("look(5)", board.look(5), 0);
    check.due("look(6)", board.look(6), 0);
    check.due("register(20)", board.register(20), 0);
    check.due("slots(5)", board.slots(5), 8);
    check.due("access to the empty queue", board.access(0, 0, 9), true);
  }

  private static void refusedInputsLeaveTheQueueAsItWas() {
    SlotBoard board = new SlotBoard();
    board.access(0, 5, 50);
    board.access(3, 5, 51);
    board.access(-1, 5, 52);
    board.access(0, 256, 53);
    board.access(0, -1, 54);
    board.access(2, 32, 55);
    board.access(2, -1, 56);
    check.due("look(4)", board.look(4), 1);
    board.access(1, 5, 0);
    check.due("look(4) behind a right one", board.look(4), 2);
    board.run(20);
    check.due("look(5)", board.look(5), 50);
    check.due("word(5)", board.word(5), 50);
    check.due("word(0)", board.word(0), 0);
    check.due("word(255)", board.word(255), 0);
    check.due("register(0)", board.register(0), 0);
    check.due("slots(5)", board.slots(5), 2);
  }

  /** For each one that is done another comes, so the queue has eight all the time. */
  private static void staysFull() {
    SlotBoard board = new SlotBoard();
    board.run(3);
    for (int i = 0; i < 8; i++) board.access(0, i, 1000 + i);
    for (int i = 8; i < 36; i++) {
      check.due("access " + i + " while full", board.access(0, 200, 1), false);
      for (int clock = 0; board.look(4) == 8 && clock < 4; clock++) board.run(1);
      check.due("access " + i, board.access(0, i, 1000 + i), true);
      check.due("look(4)", board.look(4), 8);
    }
    board.run(20);
    for (int i = 0; i < 36; i++) check.due("word(" + i + ")", board.word(i), 1000 + i);
    check.due("word(200)", board.word(200), 0);
    check.due("slots(5)", board.slots(5), 36);
  }

  private static void emptyQueueWantsNoSlot() {
    SlotBoard board = new SlotBoard();
    check.due("run(640)", board.run(640), 600);
    check.due("slots(5)", board.slots(5), 0);
    board.run(3);
    board.access(0, 1, 1);
    check.due("run(5) with one access", board.run(5), 4);
    check.due("slots(5) behind it", board.slots(5), 1);
  }

  private static void doesThemInTheirOrder() {
    SlotBoard board = new SlotBoard();
    board.access(0, 9, 5);
    board.access(1, 9, 0);
    board.access(0, 9, 6);
    board.access(1, 9, 0);
    board.run(1);
    check.due("look(4) behind clock 0", board.look(4), 4);
    check.due("word(9) behind clock 0", board.word(9), 0);
    board.run(1);
    check.due("word(9) behind clock 1", board.word(9), 5);
    check.due("look(6) behind clock 1", board.look(6), 0);
    board.run(1);
    check.due("look(6) behind clock 2", board.look(6), 0);
    board.run(1);
    check.due("look(5) behind clock 3", board.look(5), 5);
    check.due("look(6) behind clock 3", board.look(6), 1);
    board.set(9, 77);
    board.run(1);
    check.due("word(9) behind clock 4", board.word(9), 6);
    check.due("look(5) behind clock 4", board.look(5), 5);
    board.set(9, 78);
    board.run(1);
    check.due("look(5) behind clock 5", board.look(5), 78);
    check.due("look(6) behind clock 5", board.look(6), 2);
    check.due("slots(5)", board.slots(5), 4);
  }

  private static void keepsLowestBits() {
    SlotBoard board = new SlotBoard();
    board.access(0, 1, 65537);
    board.access(0, 2, -1);
    board.access(0, 3, 0x12345678);
    board.access(2, 20, -2);
    board.access(2, 22, 65536 + 9);
    board.run(9);
    check.due("word(1)", board.word(1), 1);
    check.due("word(2)", board.word(2), 65535);
    check.due("word(3)", board.word(3), 0x5678);
    check.due("register(20)", board.register(20), 65534);
    check.due("register(22)", board.register(22), 9);
  }

  private static void goesRoundAndRound() {
    SlotBoard board = new SlotBoard();
    board.run(3);
    for (int i = 0; i < 27; i++) {
      board.access(0, 40 + i, 1000 + i);
      if (i % 3 == 2) board.run(5);
    }
    board.run(10);
    for (int i = 0; i < 27; i++) check.due("word(" + (40 + i) + ")", board.word(40 + i), 1000 + i);
    check.due("slots(5)", board.slots(5), 27);
  }

  private static void writesToOthersDoNothing() {
    SlotBoard board = new SlotBoard();
    for (int r = 28; r < 32; r++) check.due("WRITE to " + r, board.access(2, r, 65535), true);
    board.run(10);
    check.due("slots(5)", board.slots(5), 4);
    for (int r = 0; r < 28; r++) check.due("register(" + r + ")", board.register(r), 0);
    for (int what = 1; what < 9; what++) check.due("look(" + what + ")", board.look(what), 0);
  }
}
