/** Promises 3 and 5: set and word. */
public final class MemoryTest {
  private static final Check check = new Check("MemoryTest");

  public static void main(String[] args) {
    everyWordIsItsOwn();
    setIsAtOnce();
    keepsLowestBits();
    refusesWrongAddresses();
    wrongAddressesLeaveTheEdgesAsTheyWere();
    check.end();
  }

  private static void everyWordIsItsOwn() {
    SlotBoard board = new SlotBoard();
    for (int a = 0; a < 256; a++) check.due("set(" + a + ")", board.set(a, 257 * a), true);
    for (int a = 0; a < 256; a++) check.due("word(" + a + ")", board.word(a), 257 * a);
  }

  private static void setIsAtOnce() {
    SlotBoard board = new SlotBoard();
    board.set(7, 5);
    check.due("place()", board.place(), 0);
    check.due("look(4)", board.look(4), 0);
    for (int owner = 0; owner < 6; owner++) check.due("slots(" + owner + ")", board.slots(owner), 0);
    board.set(7, 6);
    check.due("word(7)", board.word(7), 6);
  }

  private static void keepsLowestBits() {
    SlotBoard board = new SlotBoard();
    int[] given = {0, 65535, 65536, 65537, -1, -65536, Integer.MIN_VALUE, Integer.MAX_VALUE};
    int[] kept = {0, 65535, 0, 1, 65535, 0, 0, 65535};
    for (int i = 0; i < given.length; i++) {
      check.due("set(3, " + given[i] + ")", board.set(3, given[i]), true);
      check.due("word(3) of " + given[i], board.word(3), kept[i]);
    }
  }

  private static void refusesWrongAddresses() {
    SlotBoard board = new SlotBoard();
    int[] wrong = {-1, 256, 257, 512, Integer.MIN_VALUE, Integer.MAX_VALUE};
    for (int a : wrong) {
      check.due("set(" + a + ", 1)", board.set(a, 1), false);
      check.due("word(" + a + ")", board.word(a), -1);
    }
    for (int a = 0; a < 256; a++) check.due("word(" + a + ")", board.word(a), 0);
  }

  private static void wrongAddressesLeaveTheEdgesAsTheyWere() {
    SlotBoard board = new SlotBoard();
    check.due("set(0, 10)", board.set(0, 10), true);
    check.due("set(255, 20)", board.set(255, 20), true);
    check.due("set(-1, 30)", board.set(-1, 30), false);
    check.due("set(256, 40)", board.set(256, 40), false);
    check.due("word(0)", board.word(0), 10);
    check.due("word(255)", board.word(255), 20);
    check.due("word(-1)", board.word(-1), -1);
    check.due("word(256)", board.word(256), -1);
  }
}
