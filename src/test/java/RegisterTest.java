/** Promise 11, and paragraph 1: what registers have. */
public final class RegisterTest {
  private static final int[] COUNTING = {
    15, 255, 0, 255, 255, 255, 4095, 4095, 4095, 4095, 65535, 15,
    255, 255, 255, 255, 255, 255, 255, 255, 65535, 65535, 65535, 65535, 65535, 0, 3, 0
  };
  private static final Check check = new Check("RegisterTest");

  public static void main(String[] args) {
    keepsTheBitsThatCount();
    writeGivesOneRegisterAWord();
    eachIsItsOwn();
    refusesWrongNumbers();
    causesHaveNoWord();
    pointersGoRound();
    check.end();
  }

  private static void keepsTheBitsThatCount() {
    for (int r = 0; r < 28; r++) {
      SlotBoard board = new SlotBoard();
      Boards.write(board, r, 65535);
      check.due("register(" + r + ") of 65535", board.register(r), COUNTING[r]);
      Boards.runTo(board, 9);
      Boards.write(board, 0, 0, r, 0x5a5a);
      check.due("register(" + r + ") of 0x5a5a", board.register(r), 0x5a5a & COUNTING[r]);
      Boards.write(board, r, 0);
      check.due("register(" + r + ") of 0", board.register(r), 0);
    }
  }

  private static void writeGivesOneRegisterAWord() {
    for (int r = 0; r < 32; r++) {
      SlotBoard board = new SlotBoard();
      Boards.write(board, r, 65535);
      for (int other = 0; other < 28; other++) {
        if (other != r) check.due("register(" + other + ") behind " + r, board.register(other), 0);
      }
    }
  }

  private static void eachIsItsOwn() {
    SlotBoard board = new SlotBoard();
    for (int r = 1; r < 25; r++) Boards.write(board, r, 0xa5c3 + 77 * r);
    for (int r = 1; r < 25; r++) {
      check.due("register(" + r + ")", board.register(r), 0xa5c3 + 77 * r & COUNTING[r]);
    }
  }

  private static void refusesWrongNumbers() {
    SlotBoard board = new SlotBoard();
    for (int r = 28; r < 32; r++) Boards.write(board, r, 65535);
    int[] wrong = {-1, 28, 29, 30, 31, 32, Integer.MIN_VALUE, Integer.MAX_VALUE};
    for (int r : wrong) check.due("register(" + r + ")", board.register(r), -1);
  }

  private static void causesHaveNoWord() {
    SlotBoard board = new SlotBoard();
    Boards.write(board, 25, 0x77, 27, 1, 2, 9);
    check.due("register(2)", board.register(2), 0);
    check.due("register(25)", board.register(25), 0);
    check.due("register(27)", board.register(27), 0);
    check.due("look(7) of the JUMP", board.look(7), 1);
    check.due("look(2) of the SIZE", board.look(2), 1);
    board.run(50);
    check.due("register(2) later", board.register(2), 0);
    check.due("register(25) later", board.register(25), 0);
    check.due("register(27) later", board.register(27), 0);
  }

  /** One word moved from and to 255, behind which comes 0; then the modulo, which goes round too. */
  private static void pointersGoRound() {
    for (int channel = 0; channel < 4; channel++) {
      SlotBoard board = new SlotBoard();
      Boards.write(board, 10, 0x100 << channel, 12 + channel, 255, 0, 4, 25, 0x11);
      board.run(4);
      check.due("pointer " + channel + " behind 255", board.register(12 + channel), 0);
      Boards.write(board, 12 + channel, 250, 16 + channel, 5, 25, 0x11);
      board.run(4);
      check.due("pointer " + channel + " with its modulo", board.register(12 + channel), 0);
      Boards.write(board, 12 + channel, 0, 16 + channel, 255, 25, 0x11);
      board.run(4);
      check.due("pointer " + channel + " taken back", board.register(12 + channel), 0);
      Boards.write(board, 12 + channel, 255, 16 + channel, 255, 25, 0x11);
      board.run(4);
      check.due("pointer " + channel + " forth and back", board.register(12 + channel), 255);
    }
  }
}
