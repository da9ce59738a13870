/** Promise 11, and paragraph 1: what registers have. */
public final class RegisterTest {
  private static final int[] COUNTING = {
    15, 255, 0, 255, 255, 255, 4095, 4095, 4095, 4095, 65535, 15,
    255, 255, 255, 255, 255, 255, 255, 255, 65535, 65535, 65535, 65535, 65535, 0, 3, 0
  };
  private static final Check check = new Check("RegisterTest");

  public static void main(String[] args) {
    keepsTheBitsThatCount();
    writeGivesOneRegisterAWord();
    eachIsItsOwn();
    refusesWrongNumbers();
    check.end();
  }

  private static void keepsTheBitsThatCount() {
    for (int r = 0; r < 28; r++) {
      SlotBoard board = new SlotBoard();
      Boards.write(board, r, 65535);
      check.due("register(" + r + ") of 65535", board.register(r), COUNTING[r]);
      Boards.runTo(board, 9);
      Boards.write(board, 0, 0, r, 0x5a5a);
      check.due("register(" + r + ") of 0x5a5a", board.register(r), 0x5a5a & COUNTING[r]);
      Boards.write(board, r, 0);
      check.due("register(" + r + ") of 0", board.register(r), 0);
    }
  }

  private static void writeGivesOneRegisterAWord() {
    for (int r = 0; r < 32; r++) {
      SlotBoard board = new SlotBoard();
      Boards.write(board, r, 65535);
      for (int other = 0; other < 28; other++) {
        if (other != r) check.due("register(" + other + ") behind " + r, board.register(other), 0);
      }
    }
  }

  private static void eachIsItsOwn() {
    SlotBoard board = new SlotBoard();
    for (int r = 1; r < 25; r++) Boards.write(board, r, 0xa5c3 + 77 * r);
    for (int r = 1; r < 25; r++) {
      check.due("register(" + r + ")", board.register(r), 0xa5c3 + 77 * r & COUNTING[r]);
    }
  }

  private static void refusesWrongNumbers() {
    SlotBoard board = new SlotBoard();
    for (int r = 28; r < 32; r++) Boards.write(board, r, 65535);
    int[] wrong = {-1, 28, 29, 30, 31, 32, Integer.MIN_VALUE, Integer.MAX_VALUE};
    for (int r : wrong) check.due("register(" + r + ")", board.register(r), -1);
  }
}
